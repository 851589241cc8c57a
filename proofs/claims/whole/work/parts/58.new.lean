/-! LEVEL 2, what is made: rows, blades, hands, sentences, books, states, behind all that is there. -/
noncomputable section SGNw
variable {La : sg_L} {s : sg_M}
theorem sp_nwN {n kd : Nat} {a b : Int} (h : a ≠ (n : Int)) : sg_nw s n kd a b = s a b := by unfold sg_nw; rw [if_neg h]
theorem sp_pu1 {La : sg_L} {kd q : Nat} : (sg_pu La kd q).1 = La.1 + 1 := rfl
theorem sp_se1 {La : sg_L} {o kd : Nat} : (sg_se La o kd).1 = La.1 := rfl
theorem sp_se_kd {La : sg_L} {o kd k : Nat} (h : k ≠ o) : (sg_se La o kd).2.1 k = La.2.1 k := by show va_up La.2.1 o kd k = _; unfold va_up; rw [if_neg h]
theorem sp_se_new {La : sg_L} {o kd : Nat} : (sg_se La o kd).2.1 o = kd := by show va_up La.2.1 o kd o = _; unfold va_up; rw [if_pos rfl]
theorem tX4_new {q : Nat} {x1 : Int} {Q : sg_L → sg_M → Prop} (h0 : 0 ≤ x1) (h200 : x1 ≤ 200)
    (h : ∀ (La' : sg_L) (s' : sg_M), sg_X La La' → La'.1 = La.1 + 2 → La'.2.1 La.1 = 4 → La'.2.1 (La.1 + 1) = 10000 + x1.toNat → (∀ c i : Int, c < La.1 → s' c i = s c i) → s' La.1 0 = (La.1 : Int) + 1 → s' La.1 1 = 0 → s' La.1 2 = 0 → (∀ i, s' ((La.1 : Int) + 1) i = 0) → Q La' s') : fX4_init (sg_pu La 24 q) (sg_nw s La.1 24) (La.1 : Int) x1 Q := by
  intro s1 h1 s3 h3
  have em : sg_max 0 x1 = x1 := by unfold sg_max; split <;> omega
  rw [em]
  refine ⟨by omega, fun q5 La6 hL6 s7 h7 o8 h8 s19 h19 => ?_⟩
  have e6 : La6.1 = La.1 + 2 := by rw [hL6]; rfl
  have hn8 : o8 = (La.1 : Int) + 1 := by rw [h8, sp_pu1]; omega
  have k6 : La6.2.1 (La.1 + 1) = 10000 + x1.toNat := by rw [hL6]; exact sg_pu_new
  have X6 : sg_X La La6 := by rw [hL6]; exact sg_X.tr sg_X.pu sg_X.pu
  have r0 : s19 La.1 0 = (La.1 : Int) + 1 := by rw [h19, sg_upS, hn8]
  have n7 : ∀ b, s7 La.1 b = s3 La.1 b := fun b => by rw [h7]; exact sp_nwN (by rw [sp_pu1]; omega)
  have r1 : s19 La.1 1 = 0 := by rw [h19, sg_upN _ (by omega), n7, h3, sg_upN _ (by omega), h1, sg_upS]
  have r2 : s19 La.1 2 = 0 := by rw [h19, sg_upN _ (by omega), n7, h3, sg_upS]
  have rz : ∀ i, s19 ((La.1 : Int) + 1) i = 0 := fun i => by
    rw [h19, sg_upN _ (by omega), h7]
    unfold sg_nw
    rw [if_pos (by rw [sp_pu1]; omega)]
    unfold sg_zero sg_dcA
    rw [if_neg (show ¬ 10000 + x1.toNat < 100 by omega), if_pos (show 10000 + x1.toNat < 20000 by omega)]
    rfl
  have rs : ∀ c i : Int, c < La.1 → s19 c i = s c i := fun c i hc => by
    rw [h19, sg_upN _ (by omega), h7, sp_nwN (by rw [sp_pu1]; omega), h3, sg_upN _ (by omega), h1, sg_upN _ (by omega), sp_nwN (by omega)]
  refine ⟨⟨fun ad => ?_, fun j d hd => ?_⟩, fun La21 hL21 => ?_⟩
  · show List.mapIdx _ [(5, 0, 0), (0, 0, 0), (1, 0, 0)] = List.mapIdx _ [(3, 1, 9999), (0, 0, 0), (1, 0, 0)]
    simp [List.mapIdx_cons, sg_sv, sg_rf, r0]
    omega
  · rw [Int.toNat_natCast]
    match j, hd with
    | 0, hd =>
      cases Option.some.inj hd
      show La.1 + 1 < (sg_se La6 La.1 4).1 ∧ sg_isK ((sg_se La6 La.1 4).2.1 (La.1 + 1)) 9999
      rw [sp_se1, e6, sp_se_kd (by omega), k6]
      exact ⟨by omega, by unfold sg_isK; rw [if_pos rfl]; omega⟩
    | 1, hd =>
      cases Option.some.inj hd
      show sg_R (s19 La.1 1); rw [r1]; omega
    | 2, hd =>
      cases Option.some.inj hd
      show sg_B (s19 La.1 2); rw [r2]; omega
    | j + 3, hd => cases hd
  · rw [Int.toNat_natCast] at hL21
    refine h La21 s19 ?_ ?_ ?_ ?_ rs r0 r1 r2 rz
    · rw [hL21]; exact sg_X_sx X6 (Nat.le_refl _)
    · rw [hL21, sp_se1, e6]
    · rw [hL21, sp_se_new]
    · rw [hL21, sp_se_kd (by omega), k6]
theorem tX1_new {q : Nat} {Q : sg_L → sg_M → Prop}
    (h : ∀ (La' : sg_L) (s' : sg_M), sg_X La La' → La'.1 = La.1 + 5 → La'.2.1 La.1 = 1 → (∀ k, 1 ≤ k → k ≤ 4 → La'.2.1 (La.1 + k) = 10060) → (∀ c i : Int, c < La.1 → s' c i = s c i) → s' La.1 4 = 0 → s' La.1 5 = 0 → s' La.1 6 = 0 → Q La' s') : fX1_init (sg_pu La 21 q) (sg_nw s La.1 21) (La.1 : Int) Q := by
  intro q1 La2 hL2 s3 h3 o4 h4 s14 h14 q16 La17 hL17 s18 h18 o19 h19 s29 h29 q31 La32 hL32 s33 h33 o34 h34 s44 h44 q46 La47 hL47 s48 h48 o49 h49 s59 h59 s61 h61 s63 h63 s65 h65
  have n2 : La2.1 = La.1 + 2 := by rw [hL2]; rfl
  have n17 : La17.1 = La.1 + 3 := by rw [hL17, sp_pu1, n2]
  have n32 : La32.1 = La.1 + 4 := by rw [hL32, sp_pu1, n17]
  have n47 : La47.1 = La.1 + 5 := by rw [hL47, sp_pu1, n32]
  have k1 : La47.2.1 (La.1 + 1) = 10060 := by
    rw [hL47, sg_pu_kd (by omega), hL32, sg_pu_kd (by omega), hL17, sg_pu_kd (by omega), hL2]; exact sg_pu_new
  have k2 : La47.2.1 (La.1 + 2) = 10060 := by
    rw [hL47, sg_pu_kd (by omega), hL32, sg_pu_kd (by omega), hL17, ← n2]; exact sg_pu_new
  have k3 : La47.2.1 (La.1 + 3) = 10060 := by rw [hL47, sg_pu_kd (by omega), hL32, ← n17]; exact sg_pu_new
  have k4 : La47.2.1 (La.1 + 4) = 10060 := by rw [hL47, ← n32]; exact sg_pu_new
  have X47 : sg_X La La47 := by
    rw [hL47, hL32, hL17, hL2]; exact sg_X.tr sg_X.pu (sg_X.tr sg_X.pu (sg_X.tr sg_X.pu (sg_X.tr sg_X.pu sg_X.pu)))
  have m4 : o4 = (La.1 : Int) + 1 := by rw [h4, sp_pu1]; omega
  have m19 : o19 = (La.1 : Int) + 2 := by rw [h19, n2]; omega
  have m34 : o34 = (La.1 : Int) + 3 := by rw [h34, n17]; omega
  have m49 : o49 = (La.1 : Int) + 4 := by rw [h49, n32]; omega
  have w48 : ∀ c b : Int, c ≠ (La.1 : Int) + 4 → s48 c b = s44 c b := fun c b hc => by rw [h48]; exact sp_nwN (by rw [n32]; omega)
  have w33 : ∀ c b : Int, c ≠ (La.1 : Int) + 3 → s33 c b = s29 c b := fun c b hc => by rw [h33]; exact sp_nwN (by rw [n17]; omega)
  have w18 : ∀ c b : Int, c ≠ (La.1 : Int) + 2 → s18 c b = s14 c b := fun c b hc => by rw [h18]; exact sp_nwN (by rw [n2]; omega)
  have w3 : ∀ c b : Int, c ≠ (La.1 : Int) + 1 → s3 c b = sg_nw s La.1 21 c b := fun c b hc => by rw [h3]; exact sp_nwN (by rw [sp_pu1]; omega)
  have r6 : s65 La.1 6 = 0 := by rw [h65, sg_upS]
  have r5 : s65 La.1 5 = 0 := by rw [h65, sg_upN _ (by omega), h63, sg_upS]
  have r4 : s65 La.1 4 = 0 := by rw [h65, sg_upN _ (by omega), h63, sg_upN _ (by omega), h61, sg_upS]
  have c0 : ∀ i : Int, i < 4 → s65 La.1 i = s59 La.1 i := fun i hi => by rw [h65, sg_upN _ (by omega), h63, sg_upN _ (by omega), h61, sg_upN _ (by omega)]
  have r3 : s65 La.1 3 = (La.1 : Int) + 4 := by rw [c0 3 (by omega), h59, sg_upS, m49]
  have r2 : s65 La.1 2 = (La.1 : Int) + 3 := by rw [c0 2 (by omega), h59, sg_upN _ (by omega), w48 _ _ (by omega), h44, sg_upS, m34]
  have r1 : s65 La.1 1 = (La.1 : Int) + 2 := by rw [c0 1 (by omega), h59, sg_upN _ (by omega), w48 _ _ (by omega), h44, sg_upN _ (by omega), w33 _ _ (by omega), h29, sg_upS, m19]
  have r0 : s65 La.1 0 = (La.1 : Int) + 1 := by rw [c0 0 (by omega), h59, sg_upN _ (by omega), w48 _ _ (by omega), h44, sg_upN _ (by omega), w33 _ _ (by omega), h29, sg_upN _ (by omega), w18 _ _ (by omega), h14, sg_upS, m4]
  have rs : ∀ c i : Int, c < La.1 → s65 c i = s c i := fun c i hc => by
    rw [h65, sg_upN _ (by omega), h63, sg_upN _ (by omega), h61, sg_upN _ (by omega), h59, sg_upN _ (by omega), w48 _ _ (by omega), h44, sg_upN _ (by omega), w33 _ _ (by omega), h29, sg_upN _ (by omega), w18 _ _ (by omega), h14, sg_upN _ (by omega), w3 _ _ (by omega), sp_nwN (by omega)]
  refine ⟨⟨fun ad => ?_, fun j d hd => ?_⟩, fun La67 hL67 => ?_⟩
  · show List.mapIdx _ [(5, 0, 0), (5, 0, 0), (5, 0, 0), (5, 0, 0), (0, 0, 0), (0, 0, 0), (0, 0, 0)] = List.mapIdx _ [(3, 1, 10060), (3, 2, 10060), (3, 3, 10060), (3, 4, 10060), (0, 0, 0), (0, 0, 0), (0, 0, 0)]
    simp [List.mapIdx_cons, sg_sv, sg_rf, r0, r1, r2, r3]
    exact ⟨by omega, by rw [show ((La.1 : Int) + 2).toNat = La.1 + 2 by omega, if_neg (by omega)], by rw [show ((La.1 : Int) + 3).toNat = La.1 + 3 by omega, if_neg (by omega)], by rw [show ((La.1 : Int) + 4).toNat = La.1 + 4 by omega, if_neg (by omega)]⟩
  · rw [Int.toNat_natCast]
    match j, hd with
    | 0, hd =>
      cases Option.some.inj hd
      show La.1 + 1 < (sg_se La47 La.1 1).1 ∧ sg_isK ((sg_se La47 La.1 1).2.1 (La.1 + 1)) 10060
      rw [sp_se1, n47, sp_se_kd (by omega), k1]; exact ⟨by omega, rfl⟩
    | 1, hd =>
      cases Option.some.inj hd
      show La.1 + 2 < (sg_se La47 La.1 1).1 ∧ sg_isK ((sg_se La47 La.1 1).2.1 (La.1 + 2)) 10060
      rw [sp_se1, n47, sp_se_kd (by omega), k2]; exact ⟨by omega, rfl⟩
    | 2, hd =>
      cases Option.some.inj hd
      show La.1 + 3 < (sg_se La47 La.1 1).1 ∧ sg_isK ((sg_se La47 La.1 1).2.1 (La.1 + 3)) 10060
      rw [sp_se1, n47, sp_se_kd (by omega), k3]; exact ⟨by omega, rfl⟩
    | 3, hd =>
      cases Option.some.inj hd
      show La.1 + 4 < (sg_se La47 La.1 1).1 ∧ sg_isK ((sg_se La47 La.1 1).2.1 (La.1 + 4)) 10060
      rw [sp_se1, n47, sp_se_kd (by omega), k4]; exact ⟨by omega, rfl⟩
    | 4, hd =>
      cases Option.some.inj hd
      show sg_R (s65 La.1 4); rw [r4]; omega
    | 5, hd =>
      cases Option.some.inj hd
      show sg_R (s65 La.1 5); rw [r5]; omega
    | 6, hd =>
      cases Option.some.inj hd
      show sg_R (s65 La.1 6); rw [r6]; omega
    | j + 7, hd => cases hd
  · rw [Int.toNat_natCast] at hL67
    refine h La67 s65 ?_ ?_ ?_ (fun k g1 g2 => ?_) rs r4 r5 r6
    · rw [hL67]; exact sg_X_sx X47 (Nat.le_refl _)
    · rw [hL67, sp_se1, n47]
    · rw [hL67, sp_se_new]
    · rw [hL67, sp_se_kd (by omega)]
      have hk : k = 1 ∨ k = 2 ∨ k = 3 ∨ k = 4 := by omega
      rcases hk with rfl | rfl | rfl | rfl
      · exact k1
      · exact k2
      · exact k3
      · exact k4
theorem tX3_new {q : Nat} {Q : sg_L → sg_M → Prop}
    (h : ∀ (La' : sg_L) (s' : sg_M), sg_X La La' → La'.1 = La.1 + 3 → La'.2.1 La.1 = 3 → (∀ k, 1 ≤ k → k ≤ 2 → La'.2.1 (La.1 + k) = 10200) → (∀ c i : Int, c < La.1 → s' c i = s c i) → s' La.1 2 = 0 → s' La.1 3 = 0 → s' La.1 4 = 0 → Q La' s') : fX3_init (sg_pu La 23 q) (sg_nw s La.1 23) (La.1 : Int) Q := by
  intro q1 La2 hL2 s3 h3 o4 h4 s14 h14 q16 La17 hL17 s18 h18 o19 h19 s29 h29 s31 h31 s33 h33 s35 h35
  have n2 : La2.1 = La.1 + 2 := by rw [hL2]; rfl
  have n17 : La17.1 = La.1 + 3 := by rw [hL17, sp_pu1, n2]
  have k1 : La17.2.1 (La.1 + 1) = 10200 := by rw [hL17, sg_pu_kd (by omega), hL2]; exact sg_pu_new
  have k2 : La17.2.1 (La.1 + 2) = 10200 := by rw [hL17, ← n2]; exact sg_pu_new
  have X17 : sg_X La La17 := by rw [hL17, hL2]; exact sg_X.tr sg_X.pu (sg_X.tr sg_X.pu sg_X.pu)
  have m4 : o4 = (La.1 : Int) + 1 := by rw [h4, sp_pu1]; omega
  have m19 : o19 = (La.1 : Int) + 2 := by rw [h19, n2]; omega
  have w18 : ∀ c b : Int, c ≠ (La.1 : Int) + 2 → s18 c b = s14 c b := fun c b hc => by rw [h18]; exact sp_nwN (by rw [n2]; omega)
  have w3 : ∀ c b : Int, c ≠ (La.1 : Int) + 1 → s3 c b = sg_nw s La.1 23 c b := fun c b hc => by rw [h3]; exact sp_nwN (by rw [sp_pu1]; omega)
  have r4 : s35 La.1 4 = 0 := by rw [h35, sg_upS]
  have r3 : s35 La.1 3 = 0 := by rw [h35, sg_upN _ (by omega), h33, sg_upS]
  have r2 : s35 La.1 2 = 0 := by rw [h35, sg_upN _ (by omega), h33, sg_upN _ (by omega), h31, sg_upS]
  have c0 : ∀ i : Int, i < 2 → s35 La.1 i = s29 La.1 i := fun i hi => by rw [h35, sg_upN _ (by omega), h33, sg_upN _ (by omega), h31, sg_upN _ (by omega)]
  have r1 : s35 La.1 1 = (La.1 : Int) + 2 := by rw [c0 1 (by omega), h29, sg_upS, m19]
  have r0 : s35 La.1 0 = (La.1 : Int) + 1 := by rw [c0 0 (by omega), h29, sg_upN _ (by omega), w18 _ _ (by omega), h14, sg_upS, m4]
  have rs : ∀ c i : Int, c < La.1 → s35 c i = s c i := fun c i hc => by
    rw [h35, sg_upN _ (by omega), h33, sg_upN _ (by omega), h31, sg_upN _ (by omega), h29, sg_upN _ (by omega), w18 _ _ (by omega), h14, sg_upN _ (by omega), w3 _ _ (by omega), sp_nwN (by omega)]
  refine ⟨⟨fun ad => ?_, fun j d hd => ?_⟩, fun La67 hL67 => ?_⟩
  · show List.mapIdx _ [(5, 0, 0), (5, 0, 0), (0, 0, 0), (0, 0, 0), (0, 0, 0)] = List.mapIdx _ [(3, 1, 10200), (3, 2, 10200), (0, 0, 0), (0, 0, 0), (0, 0, 0)]
    simp [List.mapIdx_cons, sg_sv, sg_rf, r0, r1]
    exact ⟨by omega, by rw [show ((La.1 : Int) + 2).toNat = La.1 + 2 by omega, if_neg (by omega)]⟩
  · rw [Int.toNat_natCast]
    match j, hd with
    | 0, hd =>
      cases Option.some.inj hd
      show La.1 + 1 < (sg_se La17 La.1 3).1 ∧ sg_isK ((sg_se La17 La.1 3).2.1 (La.1 + 1)) 10200
      rw [sp_se1, n17, sp_se_kd (by omega), k1]; exact ⟨by omega, rfl⟩
    | 1, hd =>
      cases Option.some.inj hd
      show La.1 + 2 < (sg_se La17 La.1 3).1 ∧ sg_isK ((sg_se La17 La.1 3).2.1 (La.1 + 2)) 10200
      rw [sp_se1, n17, sp_se_kd (by omega), k2]; exact ⟨by omega, rfl⟩
    | 2, hd =>
      cases Option.some.inj hd
      show sg_R (s35 La.1 2); rw [r2]; omega
    | 3, hd =>
      cases Option.some.inj hd
      show sg_R (s35 La.1 3); rw [r3]; omega
    | 4, hd =>
      cases Option.some.inj hd
      show sg_R (s35 La.1 4); rw [r4]; omega
    | j + 5, hd => cases hd
  · rw [Int.toNat_natCast] at hL67
    refine h La67 s35 ?_ ?_ ?_ (fun k g1 g2 => ?_) rs r2 r3 r4
    · rw [hL67]; exact sg_X_sx X17 (Nat.le_refl _)
    · rw [hL67, sp_se1, n17]
    · rw [hL67, sp_se_new]
    · rw [hL67, sp_se_kd (by omega)]
      have hk : k = 1 ∨ k = 2 := by omega
      rcases hk with rfl | rfl
      · exact k1
      · exact k2
theorem tX5_new {q : Nat} {Q : sg_L → sg_M → Prop}
    (h : ∀ (La' : sg_L) (s' : sg_M), sg_X La La' → La'.1 = La.1 + 7 → La'.2.1 La.1 = 5 → (∀ k, k = 2 ∨ k = 4 ∨ k = 6 → La'.2.1 (La.1 + k) = 10040) → (∀ k, k = 1 ∨ k = 3 ∨ k = 5 → La'.2.1 (La.1 + k) = 4) → (∀ c i : Int, c < La.1 → s' c i = s c i) → s' La.1 3 = 0 →
      (∀ k : Int, k = 1 ∨ k = 3 ∨ k = 5 → s' ((La.1 : Int) + k) 1 = 0) → Q La' s') : fX5_init (sg_pu La 25 q) (sg_nw s La.1 25) (La.1 : Int) Q := by
  intro q1 La2 hL2 s3 h3 o4 h4
  subst hL2; subst h3; subst h4
  refine tX4_new (by omega) (by omega) (fun La13 s14 X13 n13 k13 k13' f13 a0 a1 a2 _ => ?_)
  simp only [sp_pu1] at n13 k13 k13' f13 a0 a1 a2 X13
  intro s19 h19 q21 La22 hL22 s23 h23 o24 h24
  subst hL22; subst h23; subst h24
  refine tX4_new (by omega) (by omega) (fun La33 s34 X33 n33 k33 k33' f33 b0 b1 b2 _ => ?_)
  intro s39 h39 q41 La42 hL42 s43 h43 o44 h44
  subst hL42; subst h43; subst h44
  refine tX4_new (by omega) (by omega) (fun La53 s54 X53 n53 k53 k53' f53 c0 c1 c2 _ => ?_)
  intro s59 h59 s61 h61
  have e13 : La13.1 = La.1 + 3 := by rw [n13]
  have e33 : La33.1 = La.1 + 5 := by rw [n33, e13]
  have e53 : La53.1 = La.1 + 7 := by rw [n53, e33]
  have X : sg_X La La53 := sg_X.tr sg_X.pu (sg_X.tr X13 (sg_X.tr X33 X53))
  have K1 : La53.2.1 (La.1 + 1) = 4 := by rw [X53.2.2 _ (by omega), X33.2.2 _ (by omega)]; exact k13
  have K2 : La53.2.1 (La.1 + 2) = 10040 := by rw [X53.2.2 _ (by omega), X33.2.2 _ (by omega)]; exact k13'
  have K3 : La53.2.1 (La.1 + 3) = 4 := by rw [X53.2.2 _ (by omega), ← e13]; exact k33
  have K4 : La53.2.1 (La.1 + 4) = 10040 := by rw [X53.2.2 _ (by omega), show La.1 + 4 = La13.1 + 1 by omega]; exact k33'
  have K5 : La53.2.1 (La.1 + 5) = 4 := by rw [← e33]; exact k53
  have K6 : La53.2.1 (La.1 + 6) = 10040 := by rw [show La.1 + 6 = La33.1 + 1 by omega]; exact k53'
  have r3 : s61 La.1 3 = 0 := by rw [h61, sg_upS]
  have r2 : s61 La.1 2 = (La.1 : Int) + 5 := by rw [h61, sg_upN _ (by omega), h59, sg_upS, e33]; omega
  have r1 : s61 La.1 1 = (La.1 : Int) + 3 := by rw [h61, sg_upN _ (by omega), h59, sg_upN _ (by omega), f53 _ _ (by omega), h39, sg_upS, e13]; omega
  have r0 : s61 La.1 0 = (La.1 : Int) + 1 := by rw [h61, sg_upN _ (by omega), h59, sg_upN _ (by omega), f53 _ _ (by omega), h39, sg_upN _ (by omega), f33 _ _ (by omega), h19, sg_upS, sp_pu1]; omega
  have rs : ∀ c i : Int, c < La.1 → s61 c i = s c i := fun c i hc => by
    rw [h61, sg_upN _ (by omega), h59, sg_upN _ (by omega), f53 _ _ (by omega), h39, sg_upN _ (by omega), f33 _ _ (by omega), h19, sg_upN _ (by omega), f13 _ _ (by omega), sp_nwN (by omega)]
  refine ⟨⟨fun ad => ?_, fun j d hd => ?_⟩, fun La67 hL67 => ?_⟩
  · show List.mapIdx _ [(5, 0, 0), (5, 0, 0), (5, 0, 0), (0, 0, 0)] = List.mapIdx _ [(3, 1, 4), (3, 3, 4), (3, 5, 4), (0, 0, 0)]
    simp [List.mapIdx_cons, sg_sv, sg_rf, r0, r1, r2]
    exact ⟨by omega, by rw [show ((La.1 : Int) + 3).toNat = La.1 + 3 by omega, if_neg (by omega)], by rw [show ((La.1 : Int) + 5).toNat = La.1 + 5 by omega, if_neg (by omega)]⟩
  · rw [Int.toNat_natCast]
    match j, hd with
    | 0, hd =>
      cases Option.some.inj hd
      show La.1 + 1 < (sg_se La53 La.1 5).1 ∧ sg_isK ((sg_se La53 La.1 5).2.1 (La.1 + 1)) 4
      rw [sp_se1, e53, sp_se_kd (by omega), K1]; exact ⟨by omega, rfl⟩
    | 1, hd =>
      cases Option.some.inj hd
      show La.1 + 3 < (sg_se La53 La.1 5).1 ∧ sg_isK ((sg_se La53 La.1 5).2.1 (La.1 + 3)) 4
      rw [sp_se1, e53, sp_se_kd (by omega), K3]; exact ⟨by omega, rfl⟩
    | 2, hd =>
      cases Option.some.inj hd
      show La.1 + 5 < (sg_se La53 La.1 5).1 ∧ sg_isK ((sg_se La53 La.1 5).2.1 (La.1 + 5)) 4
      rw [sp_se1, e53, sp_se_kd (by omega), K5]; exact ⟨by omega, rfl⟩
    | 3, hd =>
      cases Option.some.inj hd
      show sg_R (s61 La.1 3); rw [r3]; omega
    | j + 4, hd => cases hd
  · rw [Int.toNat_natCast] at hL67
    refine h La67 s61 ?_ ?_ ?_ (fun k hk => ?_) (fun k hk => ?_) rs r3 (fun k hk => ?_)
    · rw [hL67]; exact sg_X_sx X (Nat.le_refl _)
    · rw [hL67, sp_se1, e53]
    · rw [hL67, sp_se_new]
    · rw [hL67, sp_se_kd (by omega)]
      rcases hk with rfl | rfl | rfl
      · exact K2
      · exact K4
      · exact K6
    · rw [hL67, sp_se_kd (by omega)]
      rcases hk with rfl | rfl | rfl
      · exact K1
      · exact K3
      · exact K5
    · rw [h61, sg_upN _ (by omega), h59, sg_upN _ (by omega)]
      rcases hk with rfl | rfl | rfl
      · rw [f53 _ _ (by omega), h39, sg_upN _ (by omega), f33 _ _ (by omega), h19, sg_upN _ (by omega), show (La.1 : Int) + 1 = ((La.1 + 1 : Nat) : Int) by omega]; exact a1
      · rw [f53 _ _ (by omega), h39, sg_upN _ (by omega), show (La.1 : Int) + 3 = (La13.1 : Int) by omega]; exact b1
      · rw [show (La.1 : Int) + 5 = (La33.1 : Int) by omega]; exact c1
theorem tX2_new {q : Nat} {Q : sg_L → sg_M → Prop}
    (h : ∀ (La' : sg_L) (s' : sg_M), sg_X La La' → La'.1 = La.1 + 5 → La'.2.1 La.1 = 2 → (∀ k, k = 2 ∨ k = 4 → La'.2.1 (La.1 + k) = 10040) → (∀ k, k = 1 ∨ k = 3 → La'.2.1 (La.1 + k) = 4) → (∀ c i : Int, c < La.1 → s' c i = s c i) → s' La.1 2 = 0 →
      (∀ k : Int, k = 1 ∨ k = 3 → s' ((La.1 : Int) + k) 1 = 0) → Q La' s') : fX2_init (sg_pu La 22 q) (sg_nw s La.1 22) (La.1 : Int) Q := by
  intro q1 La2 hL2 s3 h3 o4 h4
  subst hL2; subst h3; subst h4
  refine tX4_new (by omega) (by omega) (fun La13 s14 X13 n13 k13 k13' f13 a0 a1 a2 _ => ?_)
  simp only [sp_pu1] at n13 k13 k13' f13 a0 a1 a2 X13
  intro s19 h19 q21 La22 hL22 s23 h23 o24 h24
  subst hL22; subst h23; subst h24
  refine tX4_new (by omega) (by omega) (fun La33 s34 X33 n33 k33 k33' f33 b0 b1 b2 _ => ?_)
  intro s39 h39 s41 h41
  have e13 : La13.1 = La.1 + 3 := by rw [n13]
  have e33 : La33.1 = La.1 + 5 := by rw [n33, e13]
  have X : sg_X La La33 := sg_X.tr sg_X.pu (sg_X.tr X13 X33)
  have K1 : La33.2.1 (La.1 + 1) = 4 := by rw [X33.2.2 _ (by omega)]; exact k13
  have K2 : La33.2.1 (La.1 + 2) = 10040 := by rw [X33.2.2 _ (by omega)]; exact k13'
  have K3 : La33.2.1 (La.1 + 3) = 4 := by rw [← e13]; exact k33
  have K4 : La33.2.1 (La.1 + 4) = 10040 := by rw [show La.1 + 4 = La13.1 + 1 by omega]; exact k33'
  have r2 : s41 La.1 2 = 0 := by rw [h41, sg_upS]
  have r1 : s41 La.1 1 = (La.1 : Int) + 3 := by rw [h41, sg_upN _ (by omega), h39, sg_upS, e13]; omega
  have r0 : s41 La.1 0 = (La.1 : Int) + 1 := by rw [h41, sg_upN _ (by omega), h39, sg_upN _ (by omega), f33 _ _ (by omega), h19, sg_upS, sp_pu1]; omega
  have rs : ∀ c i : Int, c < La.1 → s41 c i = s c i := fun c i hc => by
    rw [h41, sg_upN _ (by omega), h39, sg_upN _ (by omega), f33 _ _ (by omega), h19, sg_upN _ (by omega), f13 _ _ (by omega), sp_nwN (by omega)]
  refine ⟨⟨fun ad => ?_, fun j d hd => ?_⟩, fun La67 hL67 => ?_⟩
  · show List.mapIdx _ [(5, 0, 0), (5, 0, 0), (0, 0, 0)] = List.mapIdx _ [(3, 1, 4), (3, 3, 4), (0, 0, 0)]
    simp [List.mapIdx_cons, sg_sv, sg_rf, r0, r1]
    exact ⟨by omega, by rw [show ((La.1 : Int) + 3).toNat = La.1 + 3 by omega, if_neg (by omega)]⟩
  · rw [Int.toNat_natCast]
    match j, hd with
    | 0, hd =>
      cases Option.some.inj hd
      show La.1 + 1 < (sg_se La33 La.1 2).1 ∧ sg_isK ((sg_se La33 La.1 2).2.1 (La.1 + 1)) 4
      rw [sp_se1, e33, sp_se_kd (by omega), K1]; exact ⟨by omega, rfl⟩
    | 1, hd =>
      cases Option.some.inj hd
      show La.1 + 3 < (sg_se La33 La.1 2).1 ∧ sg_isK ((sg_se La33 La.1 2).2.1 (La.1 + 3)) 4
      rw [sp_se1, e33, sp_se_kd (by omega), K3]; exact ⟨by omega, rfl⟩
    | 2, hd =>
      cases Option.some.inj hd
      show sg_R (s41 La.1 2); rw [r2]; omega
    | j + 3, hd => cases hd
  · rw [Int.toNat_natCast] at hL67
    refine h La67 s41 ?_ ?_ ?_ (fun k hk => ?_) (fun k hk => ?_) rs r2 (fun k hk => ?_)
    · rw [hL67]; exact sg_X_sx X (Nat.le_refl _)
    · rw [hL67, sp_se1, e33]
    · rw [hL67, sp_se_new]
    · rw [hL67, sp_se_kd (by omega)]
      rcases hk with rfl | rfl
      · exact K2
      · exact K4
    · rw [hL67, sp_se_kd (by omega)]
      rcases hk with rfl | rfl
      · exact K1
      · exact K3
    · rw [h41, sg_upN _ (by omega), h39, sg_upN _ (by omega)]
      rcases hk with rfl | rfl
      · rw [f33 _ _ (by omega), h19, sg_upN _ (by omega), show (La.1 : Int) + 1 = ((La.1 + 1 : Nat) : Int) by omega]; exact a1
      · rw [show (La.1 : Int) + 3 = (La13.1 : Int) by omega]; exact b1
end SGNw
