/-! LEVEL 2, a new object of the class. -/
noncomputable section SGNc
variable {La : sg_L} {s : sg_M}
def tk_V (s : sg_M) (l : List (Int × Int × Int)) : Prop := ∀ q, q ∈ l → s q.1 q.2.1 = q.2.2
theorem tk_V.fr {s s' : sg_M} {l : List (Int × Int × Int)} {N : Int} (V : tk_V s l) (f : ∀ c i : Int, c < N → s' c i = s c i) (h : ∀ q, q ∈ l → q.1 < N) : tk_V s' l := fun q hq => by rw [f _ _ (h q hq)]; exact V q hq
theorem tk_V.cons {s : sg_M} {l : List (Int × Int × Int)} {c i v : Int} (V : tk_V s l) (h : s c i = v) : tk_V s ((c, i, v) :: l) := fun q hq => by
  rcases List.mem_cons.mp hq with e | e
  · rw [e]; exact h
  · exact V q e
theorem tk_V.up {s s' : sg_M} {l : List (Int × Int × Int)} {o j v : Int} (V : tk_V s l) (e : s' = sg_up s o j v) (h : ∀ q, q ∈ l → ¬ (q.1 = o ∧ q.2.1 = j)) : tk_V s' ((o, j, v) :: l) := by
  subst e
  refine tk_V.cons (fun q hq => ?_) (sg_upS _ _ _ _)
  have := h q hq
  rw [sg_upN _ (fun a b => this ⟨a, b⟩)]; exact V q hq
def b00 : sg_M := fun k i => if k = 0 then 30 else if k = 1 then 5 else if k = 4 ∧ i = 0 then 3 else 0
def z00 : sp_Z := ([], 0, (bFill b00, ([], []), ([], []), fun _ => none, none), fun _ => none, fun _ => -1, [], 0, -1, [], [], [])
theorem t7_new {Q : sg_L → sg_M → Prop} (n : La.1 = 20) (k4 : La.2.1 4 = 47) (k5 : La.2.1 5 = 1) (k10 : La.2.1 10 = 3) (k13 : La.2.1 13 = 5)
    (h : ∀ (La' : sg_L) (s' : sg_M), La'.1 = 26 → (∀ k, k < 20 → k ≠ 4 → La'.2.1 k = La.2.1 k) → La'.2.1 4 = 27 → La'.2.1 20 = 2 → La'.2.1 21 = 4 → La'.2.1 22 = 10040 → La'.2.1 23 = 4 → La'.2.1 24 = 10040 → La'.2.1 25 = 30004 → (∀ c i : Int, c < 20 → c ≠ 4 → s' c i = s c i) → s' 4 0 = 5 → s' 4 1 = 10 → s' 4 2 = 13 → s' 20 2 = 0 → s' 21 1 = 0 → s' 23 1 = 0 → (∀ i, s' 25 i = -1) → Q La' s') : fX7_init_A La s 4 5 10 13 Q := by
  intro q1 La2 e2 s3 e3 o4 e4
  subst e2; subst e3; subst e4
  refine tX2_new (fun La16 s17 X16 n16 k16 ka kb f16 a2 ar => ?_)
  rw [n] at n16 k16 ka kb f16 a2 ar
  intro s25 e25 q27 La28 e28 s29 e29 o30 e30 s42 e42 s44 e44 s46 e46 s48 e48
  have n16' : La16.1 = 25 := n16
  have m30 : o30 = 25 := by rw [e30, n16']; rfl
  have n28 : La28.1 = 26 := by rw [e28, sp_pu1, n16']
  have up : ∀ c i : Int, c ≠ 4 → c ≠ 25 → s48 c i = s17 c i := fun c i h1 h2 => by
    rw [e48, sg_upN _ (by omega), e46, sg_upN _ (by omega), e44, sg_upN _ (by omega), e42, sg_upN _ (by omega), e29, sp_nwN (by rw [n16']; omega), e25, sg_upN _ (by omega)]
  have r25 : ∀ i, s48 25 i = -1 := fun i => by
    rw [e48, sg_upN _ (by omega), e46, sg_upN _ (by omega), e44, sg_upN _ (by omega), e42, sg_upN _ (by omega), e29]
    unfold sg_nw
    rw [if_pos (by rw [n16']; rfl)]
    rfl
  have r0 : s48 4 0 = 5 := by rw [e48, sg_upN _ (by omega), e46, sg_upN _ (by omega), e44, sg_upS]
  have r1 : s48 4 1 = 10 := by rw [e48, sg_upN _ (by omega), e46, sg_upS]
  have r2 : s48 4 2 = 13 := by rw [e48, sg_upS]
  have r3 : s48 4 3 = 20 := by rw [e48, sg_upN _ (by omega), e46, sg_upN _ (by omega), e44, sg_upN _ (by omega), e42, sg_upN _ (by omega), e29, sp_nwN (by rw [n16']; omega), e25, sg_upS, n]; rfl
  have r4 : s48 4 4 = 25 := by rw [e48, sg_upN _ (by omega), e46, sg_upN _ (by omega), e44, sg_upN _ (by omega), e42, sg_upS, m30]
  have kk : ∀ k, k < 25 → La28.2.1 k = La16.2.1 k := fun k hk => by rw [e28, sg_pu_kd (by omega)]
  have kl : ∀ k, k < 20 → La28.2.1 k = La.2.1 k := fun k hk => by rw [kk k (by omega), X16.2.2 _ (by omega)]
  have k25 : La28.2.1 25 = 30004 := by rw [e28, ← n16']; exact sg_pu_new
  have k20 : La28.2.1 20 = 2 := by rw [kk 20 (by omega)]; exact k16
  refine ⟨tk_seal (n := 4) rfl (fun j d hd => ?_), fun La50 e50 => ?_⟩
  · match j, hd with
    | 0, hd => cases Option.some.inj hd; exact tk4 (c := 5) rfl r0 (by omega) (by omega) (by rw [kl 5 (by omega)]; exact k5)
    | 1, hd => cases Option.some.inj hd; exact tk4 (c := 10) rfl r1 (by omega) (by omega) (by rw [kl 10 (by omega)]; exact k10)
    | 2, hd => cases Option.some.inj hd; exact tk4 (c := 13) rfl r2 (by omega) (by omega) (by rw [kl 13 (by omega)]; exact k13)
    | 3, hd => cases Option.some.inj hd; exact tk7 rfl r3 (by omega) (by omega) k20 rfl
    | 4, hd => cases Option.some.inj hd; exact tk7 rfl r4 (by omega) (by omega) k25 rfl
    | j + 5, hd => cases hd
  · have e50 : La50 = sg_se La28 4 27 := e50
    have ks : ∀ k, k ≠ 4 → La50.2.1 k = La28.2.1 k := fun k hk => by rw [e50, sp_se_kd hk]
    refine h La50 s48 (by rw [e50, sp_se1, n28]) (fun k h1 h2 => by rw [ks k h2, kl k h1]) (by rw [e50, sp_se_new]) (by rw [ks _ (by omega)]; exact k20) ?_ ?_ ?_ ?_ (by rw [ks _ (by omega)]; exact k25) (fun c i h1 h2 => ?_) r0 r1 r2 ?_ ?_ ?_ r25
    · rw [ks _ (by omega), kk _ (by omega)]; exact kb 1 (Or.inl rfl)
    · rw [ks _ (by omega), kk _ (by omega)]; exact ka 2 (Or.inl rfl)
    · rw [ks _ (by omega), kk _ (by omega)]; exact kb 3 (Or.inr rfl)
    · rw [ks _ (by omega), kk _ (by omega)]; exact ka 4 (Or.inr rfl)
    · rw [up c i h2 (by omega)]; exact f16 c i (by omega)
    · rw [up _ _ (by omega) (by omega)]; exact a2
    · rw [up _ _ (by omega) (by omega)]; exact ar 1 (Or.inl rfl)
    · rw [up _ _ (by omega) (by omega)]; exact ar 3 (Or.inr rfl)
def tkFL0 : List (Int × Int × Int) := [(0, 18, (-1)), (0, 17, 0), (0, 16, 0), (0, 15, 62), (62, 2, 0), (62, 1, 0), (0, 14, 60), (60, 2, 0), (60, 1, 0), (0, 13, 58), (58, 2, 0), (58, 1, 0), (0, 12, 56), (56, 2, 0), (56, 1, 0), (0, 11, 54), (54, 2, 0), (54, 1, 0), (0, 10, 52), (52, 2, 0), (52, 1, 0), (0, 9, 46), (50, 1, 0), (0, 8, 43), (44, 1, 0), (43, 1, 0), (0, 7, 40), (41, 1, 0), (40, 1, 0), (0, 6, 37), (38, 1, 0), (37, 1, 0), (0, 5, 32), (0, 4, 27), (0, 3, 26), (26, 1, (-1)), (26, 0, (-1)), (0, 2, 4), (25, 3, (-1)), (25, 2, (-1)), (25, 1, (-1)), (25, 0, (-1)), (23, 1, 0), (21, 1, 0), (20, 2, 0), (4, 2, 13), (4, 1, 10), (4, 0, 5), (13, 3, 0), (10, 2, 0), (5, 6, 0), (5, 5, 0), (0, 1, 3), (0, 0, 1), (1, 1, 0)]
def tkFL : List (Int × Int × Int) := [(0, 18, (-1)), (0, 17, 0), (0, 16, 0), (0, 15, 62), (62, 2, 0), (62, 1, 0), (0, 14, 60), (60, 2, 0), (60, 1, 0), (0, 13, 58), (58, 2, 0), (58, 1, 0), (0, 12, 56), (56, 2, 0), (56, 1, 0), (0, 11, 54), (54, 2, 0), (54, 1, 0), (0, 10, 52), (52, 2, 0), (52, 1, 0), (0, 9, 46), (50, 1, 0), (0, 8, 43), (44, 1, 0), (43, 1, 0), (0, 7, 40), (41, 1, 0), (40, 1, 0), (0, 6, 37), (38, 1, 0), (37, 1, 0), (0, 5, 32), (0, 4, 27), (0, 3, 26), (26, 1, (-1)), (26, 0, (-1)), (0, 2, 4), (25, 3, (-1)), (25, 2, (-1)), (25, 1, (-1)), (25, 0, (-1)), (23, 1, 0), (21, 1, 0), (20, 2, 0), (4, 2, 13), (4, 1, 10), (4, 0, 5), (13, 3, 0), (10, 2, 0), (0, 1, 3), (0, 0, 1), (1, 1, 0)]
theorem t11_init {Q : sg_L → sg_M → Prop} (n : La.1 = 1) (k0 : La.2.1 0 = 31) (h : ∀ (La' : sg_L) (s' : sg_M), La'.1 = 64 → (∀ j, j < 64 → La'.2.1 j = sg_layL.getD j 0) → sp_cB s' 5 (bFill b00) → tk_V s' tkFL → Q La' s') : fX11_init La s 0 Q := by
  have κ : ∀ j, 1 ≤ j → j < 1 → La.2.1 j = sg_layL.getD j 0 := fun j h1 h2 => absurd h2 (by omega)
  have V : tk_V s [] := fun q hq => absurd hq List.not_mem_nil
  intro q1 La2 e3 s4 e5 o6 e7
  subst e3; subst e5; subst e7
  refine t8_new (fun La8 s9 X10 n11 k13 k14 f12 a15 => ?_)
  rw [n] at n11 k13 k14 f12 a15
  have n11' : La8.1 = 3 := n11
  have κ16 : ∀ j, 1 ≤ j → j < 3 → La8.2.1 j = sg_layL.getD j 0 := fun j h1 h2 => by
    rcases Nat.lt_or_ge j 1 with h | h
    · rw [X10.2.2 _ (by rw [n]; omega)]; exact κ j h1 h
    · have hj : j = 1 ∨ j = 2 := by omega
      rcases hj with rfl | rfl
      · exact k13
      · exact k14
  have V17 := V.fr f12 (by decide +kernel)
  have V18 := V17.cons (c := 1) (i := 1) (v := 0) a15
  have z19 : La8.2.1 0 = 31 := by rw [X10.2.2 _ (by rw [n]; omega)]; exact k0
  intro s20 e21
  have V22 := V18.up (o := 0) (j := 0) (v := (1 : Int)) (e21.trans (by rw [n]; rfl)) (by decide +kernel)
  intro q23 La24 e25 s26 e27 o28 e29
  have g0 : s26 0 0 = 1 := by rw [e27, sp_nwN (by rw [n11']; omega)]; exact V22 (0, 0, 1) (by decide +kernel)
  have g1 : La8.2.1 1 = 8 := κ16 1 (by omega) (by omega)
  rw [g0]
  refine ⟨⟨by decide, by rw [e25, sp_pu1, n11']; decide, by rw [e25]; exact (sg_pu_kd (by rw [n11']; decide)).trans g1⟩, ?_⟩
  subst e25; subst e27; subst e29
  refine t9_new (by rw [n11']; decide) g1 (fun La30 s31 X32 n33 k35 f34 => ?_)
  rw [n11'] at n33 k35 f34
  have n33' : La30.1 = 4 := n33
  have κ36 : ∀ j, 1 ≤ j → j < 4 → La30.2.1 j = sg_layL.getD j 0 := fun j h1 h2 => by
    rcases Nat.lt_or_ge j 3 with h | h
    · rw [X32.2.2 _ (by rw [n11']; omega)]; exact κ16 j h1 h
    · have hj : j = 3 := by omega
      rcases hj with rfl
      · exact k35
  have V37 := V22.fr f34 (by decide +kernel)
  have z38 : La30.2.1 0 = 31 := by rw [X32.2.2 _ (by rw [n11']; omega)]; exact z19
  intro s39 e40
  have V41 := V37.up (o := 0) (j := 1) (v := (3 : Int)) (e40.trans (by rw [n11']; rfl)) (by decide +kernel)
  intro q42 La43 e44 s45 e46 o47 e48
  have g4 : o47 = 4 := by rw [e48, n33']; rfl
  have X49 : sg_X La30 La43 := by rw [e44]; exact sg_X.pu
  have n50 : La43.1 = 5 := by rw [e44, sp_pu1, n33']
  have k51 : La43.2.1 4 = 47 := by rw [e44, ← n33']; exact sg_pu_new
  have f52 : ∀ c i : Int, c < 4 → s45 c i = s39 c i := fun c i hc => by rw [e46]; exact sp_nwN (by rw [n33']; omega)
  have κ53 : ∀ j, 1 ≤ j → j < 5 → j ≠ 4 → La43.2.1 j = sg_layL.getD j 0 := fun j h1 h2 h3 => by rw [X49.2.2 _ (by rw [n33']; omega)]; exact κ36 j h1 (by omega)
  have z54 : La43.2.1 0 = 31 := by rw [X49.2.2 _ (by rw [n33']; omega)]; exact z38
  have V55 := V41.fr f52 (by decide +kernel)
  clear e44 e46
  intro q56 La57 e58 s59 e60 o61 e62
  subst e58; subst e60; subst e62
  refine tX1_new (fun La63 s64 X65 n66 k68 k69 f67 a70 a71 a72 => ?_)
  rw [n50] at n66 k68 k69 f67 a70 a71 a72
  have n66' : La63.1 = 10 := n66
  have κ73 : ∀ j, 1 ≤ j → j < 10 → j ≠ 4 → La63.2.1 j = sg_layL.getD j 0 := fun j h1 h2 h3 => by
    rcases Nat.lt_or_ge j 5 with h | h
    · rw [X65.2.2 _ (by rw [n50]; omega)]; exact κ53 j h1 h h3
    · have hj : j = 5 ∨ j = 6 ∨ j = 7 ∨ j = 8 ∨ j = 9 := by omega
      rcases hj with rfl | rfl | rfl | rfl | rfl
      · exact k68
      · exact k69 1 (by omega) (by omega)
      · exact k69 2 (by omega) (by omega)
      · exact k69 3 (by omega) (by omega)
      · exact k69 4 (by omega) (by omega)
  have V74 := V55.fr f67 (by decide +kernel)
  have V75 := V74.cons (c := 5) (i := 4) (v := 0) a70
  have V76 := V75.cons (c := 5) (i := 5) (v := 0) a71
  have V77 := V76.cons (c := 5) (i := 6) (v := 0) a72
  have z78 : La63.2.1 0 = 31 := by rw [X65.2.2 _ (by rw [n50]; omega)]; exact z54
  have z79 : La63.2.1 4 = 47 := by rw [X65.2.2 _ (by rw [n50]; omega)]; exact k51
  intro q80 La81 e82 s83 e84 o85 e86
  subst e82; subst e84; subst e86
  refine tX3_new (fun La87 s88 X89 n90 k92 k93 f91 a94 a95 a96 => ?_)
  rw [n66'] at n90 k92 k93 f91 a94 a95 a96
  have n90' : La87.1 = 13 := n90
  have κ97 : ∀ j, 1 ≤ j → j < 13 → j ≠ 4 → La87.2.1 j = sg_layL.getD j 0 := fun j h1 h2 h3 => by
    rcases Nat.lt_or_ge j 10 with h | h
    · rw [X89.2.2 _ (by rw [n66']; omega)]; exact κ73 j h1 h h3
    · have hj : j = 10 ∨ j = 11 ∨ j = 12 := by omega
      rcases hj with rfl | rfl | rfl
      · exact k92
      · exact k93 1 (by omega) (by omega)
      · exact k93 2 (by omega) (by omega)
  have V98 := V77.fr f91 (by decide +kernel)
  have V99 := V98.cons (c := 10) (i := 2) (v := 0) a94
  have z100 : La87.2.1 0 = 31 := by rw [X89.2.2 _ (by rw [n66']; omega)]; exact z78
  have z101 : La87.2.1 4 = 47 := by rw [X89.2.2 _ (by rw [n66']; omega)]; exact z79
  intro q102 La103 e104 s105 e106 o107 e108
  subst e104; subst e106; subst e108
  refine tX5_new (fun La109 s110 X111 n112 k114 k115 k116 f113 a117 a118 => ?_)
  rw [n90'] at n112 k114 k115 k116 f113 a117 a118
  have n112' : La109.1 = 20 := n112
  have κ119 : ∀ j, 1 ≤ j → j < 20 → j ≠ 4 → La109.2.1 j = sg_layL.getD j 0 := fun j h1 h2 h3 => by
    rcases Nat.lt_or_ge j 13 with h | h
    · rw [X111.2.2 _ (by rw [n90']; omega)]; exact κ97 j h1 h h3
    · have hj : j = 13 ∨ j = 14 ∨ j = 15 ∨ j = 16 ∨ j = 17 ∨ j = 18 ∨ j = 19 := by omega
      rcases hj with rfl | rfl | rfl | rfl | rfl | rfl | rfl
      · exact k114
      · exact k116 1 (Or.inl rfl)
      · exact k115 2 (Or.inl rfl)
      · exact k116 3 (Or.inr (Or.inl rfl))
      · exact k115 4 (Or.inr (Or.inl rfl))
      · exact k116 5 (Or.inr (Or.inr rfl))
      · exact k115 6 (Or.inr (Or.inr rfl))
  have V120 := V99.fr f113 (by decide +kernel)
  have V121 := V120.cons (c := 13) (i := 3) (v := 0) a117
  have z122 : La109.2.1 0 = 31 := by rw [X111.2.2 _ (by rw [n90']; omega)]; exact z100
  have z123 : La109.2.1 4 = 47 := by rw [X111.2.2 _ (by rw [n90']; omega)]; exact z101
  rw [g4, show ((La43.1 : Nat) : Int) = 5 from by rw [n50]; rfl, show ((La63.1 : Nat) : Int) = 10 from by rw [n66']; rfl, show ((La87.1 : Nat) : Int) = 13 from by rw [n90']; rfl]
  refine t7_new n112' z123 (κ119 5 (by omega) (by omega) (by omega)) (κ119 10 (by omega) (by omega) (by omega)) (κ119 13 (by omega) (by omega) (by omega)) (fun La124 s125 n126 k127 k129 k130 k131 k132 k133 k134 k135 f128 a136 a137 a138 a139 a140 a141 a142 => ?_)
  have κ143 : ∀ j, 1 ≤ j → j < 26 → La124.2.1 j = sg_layL.getD j 0 := fun j h1 h2 => by
    by_cases h4 : j = 4
    · subst h4; exact k129
    rcases Nat.lt_or_ge j 20 with h | h
    · rw [k127 j h h4]; exact κ119 j h1 h h4
    · have hj : j = 20 ∨ j = 21 ∨ j = 22 ∨ j = 23 ∨ j = 24 ∨ j = 25 := by omega
      rcases hj with rfl | rfl | rfl | rfl | rfl | rfl
      · exact k130
      · exact k131
      · exact k132
      · exact k133
      · exact k134
      · exact k135
  have z144 : La124.2.1 0 = 31 := by rw [k127 0 (by omega) (by omega)]; exact z122
  have V145 : tk_V s125 [(13, 3, 0), (10, 2, 0), (5, 6, 0), (5, 5, 0), (5, 4, 0), (0, 1, 3), (0, 0, 1), (1, 1, 0)] := fun q hq => by rw [f128 _ _ ((by decide +kernel : ∀ q, q ∈ ([(13, 3, 0), (10, 2, 0), (5, 6, 0), (5, 5, 0), (5, 4, 0), (0, 1, 3), (0, 0, 1), (1, 1, 0)] : List (Int × Int × Int)) → q.1 < 20 ∧ q.1 ≠ 4) q hq).1 ((by decide +kernel : ∀ q, q ∈ ([(13, 3, 0), (10, 2, 0), (5, 6, 0), (5, 5, 0), (5, 4, 0), (0, 1, 3), (0, 0, 1), (1, 1, 0)] : List (Int × Int × Int)) → q.1 < 20 ∧ q.1 ≠ 4) q hq).2]; exact V121 q hq
  have V146 := V145.cons (c := 4) (i := 0) (v := (5)) a136
  have V147 := V146.cons (c := 4) (i := 1) (v := (10)) a137
  have V148 := V147.cons (c := 4) (i := 2) (v := (13)) a138
  have V149 := V148.cons (c := 20) (i := 2) (v := (0)) a139
  have V150 := V149.cons (c := 21) (i := 1) (v := (0)) a140
  have V151 := V150.cons (c := 23) (i := 1) (v := (0)) a141
  have V152 := V151.cons (c := 25) (i := 0) (v := (-1)) (a142 0)
  have V153 := V152.cons (c := 25) (i := 1) (v := (-1)) (a142 1)
  have V154 := V153.cons (c := 25) (i := 2) (v := (-1)) (a142 2)
  have V155 := V154.cons (c := 25) (i := 3) (v := (-1)) (a142 3)
  intro s156 e157
  have V158 := V155.up (o := 0) (j := 2) (v := (4 : Int)) (e157.trans (by rfl)) (by decide +kernel)
  intro q159 La160 e161 s162 e163 o164 e165
  have X166 : sg_X La124 La160 := by rw [e161]; exact sg_X.pu
  have n167 : La160.1 = 27 := by rw [e161, sp_pu1, n126]
  have k168 : La160.2.1 26 = 40002 := by rw [e161, ← n126]; exact sg_pu_new
  have f169 : ∀ c i : Int, c < 26 → s162 c i = s156 c i := fun c i hc => by rw [e163]; exact sp_nwN (by rw [n126]; omega)
  have a170 : ∀ i, s162 26 i = -1 := fun i => by rw [e163]; unfold sg_nw; rw [if_pos (by rw [n126]; rfl)]; rfl
  have κ171 : ∀ j, 1 ≤ j → j < 27 → La160.2.1 j = sg_layL.getD j 0 := fun j h1 h2 => by
    rcases Nat.lt_or_ge j 26 with h | h
    · rw [X166.2.2 _ (by rw [n126]; omega)]; exact κ143 j h1 h
    · have hj : j = 26 := by omega
      rcases hj with rfl
      · exact k168
  have V172 := V158.fr f169 (by decide +kernel)
  have V173 := V172.cons (c := 26) (i := 0) (v := (-1)) (a170 0)
  have V174 := V173.cons (c := 26) (i := 1) (v := (-1)) (a170 1)
  have z175 : La160.2.1 0 = 31 := by rw [X166.2.2 _ (by rw [n126]; omega)]; exact z144
  clear e161 e163
  intro s176 e177
  have V178 := V174.up (o := 0) (j := 3) (v := (26 : Int)) (e177.trans (by rw [e165, n126]; rfl)) (by decide +kernel)
  intro q179 La180 e181 s182 e183 o184 e185
  subst e181; subst e183; subst e185
  refine tX1_new (fun La186 s187 X188 n189 k191 k192 f190 a193 a194 a195 => ?_)
  rw [n167] at n189 k191 k192 f190 a193 a194 a195
  have n189' : La186.1 = 32 := n189
  have κ196 : ∀ j, 1 ≤ j → j < 32 → La186.2.1 j = sg_layL.getD j 0 := fun j h1 h2 => by
    rcases Nat.lt_or_ge j 27 with h | h
    · rw [X188.2.2 _ (by rw [n167]; omega)]; exact κ171 j h1 h
    · have hj : j = 27 ∨ j = 28 ∨ j = 29 ∨ j = 30 ∨ j = 31 := by omega
      rcases hj with rfl | rfl | rfl | rfl | rfl
      · exact k191
      · exact k192 1 (by omega) (by omega)
      · exact k192 2 (by omega) (by omega)
      · exact k192 3 (by omega) (by omega)
      · exact k192 4 (by omega) (by omega)
  have V197 := V178.fr f190 (by decide +kernel)
  have z198 : La186.2.1 0 = 31 := by rw [X188.2.2 _ (by rw [n167]; omega)]; exact z175
  intro s199 e200
  have V201 := V197.up (o := 0) (j := 4) (v := (27 : Int)) (e200.trans (by rw [n167]; rfl)) (by decide +kernel)
  intro q202 La203 e204 s205 e206 o207 e208
  subst e204; subst e206; subst e208
  refine t0_new (fun La209 s210 X211 n212 k214 k215 k216 k217 k218 f213 => ?_)
  rw [n189'] at n212 k214 k215 k216 k217 k218 f213
  have n212' : La209.1 = 37 := n212
  have κ219 : ∀ j, 1 ≤ j → j < 37 → La209.2.1 j = sg_layL.getD j 0 := fun j h1 h2 => by
    rcases Nat.lt_or_ge j 32 with h | h
    · rw [X211.2.2 _ (by rw [n189']; omega)]; exact κ196 j h1 h
    · have hj : j = 32 ∨ j = 33 ∨ j = 34 ∨ j = 35 ∨ j = 36 := by omega
      rcases hj with rfl | rfl | rfl | rfl | rfl
      · exact k214
      · exact k215
      · exact k216
      · exact k217
      · exact k218
  have V220 := V201.fr f213 (by decide +kernel)
  have z221 : La209.2.1 0 = 31 := by rw [X211.2.2 _ (by rw [n189']; omega)]; exact z198
  intro s222 e223
  have V224 := V220.up (o := 0) (j := 5) (v := (32 : Int)) (e223.trans (by rw [n189']; rfl)) (by decide +kernel)
  intro q225 La226 e227 s228 e229 o230 e231
  subst e227; subst e229; subst e231
  refine t10_new (fun La232 s233 X234 n235 k237 k238 k239 f236 a240 a241 => ?_)
  rw [n212'] at n235 k237 k238 k239 f236 a240 a241
  have n235' : La232.1 = 40 := n235
  have κ242 : ∀ j, 1 ≤ j → j < 40 → La232.2.1 j = sg_layL.getD j 0 := fun j h1 h2 => by
    rcases Nat.lt_or_ge j 37 with h | h
    · rw [X234.2.2 _ (by rw [n212']; omega)]; exact κ219 j h1 h
    · have hj : j = 37 ∨ j = 38 ∨ j = 39 := by omega
      rcases hj with rfl | rfl | rfl
      · exact k237
      · exact k238
      · exact k239
  have V243 := V224.fr f236 (by decide +kernel)
  have V244 := V243.cons (c := 37) (i := 1) (v := 0) a240
  have V245 := V244.cons (c := 38) (i := 1) (v := 0) a241
  have z246 : La232.2.1 0 = 31 := by rw [X234.2.2 _ (by rw [n212']; omega)]; exact z221
  intro s247 e248
  have V249 := V245.up (o := 0) (j := 6) (v := (37 : Int)) (e248.trans (by rw [n212']; rfl)) (by decide +kernel)
  intro q250 La251 e252 s253 e254 o255 e256
  subst e252; subst e254; subst e256
  refine t10_new (fun La257 s258 X259 n260 k262 k263 k264 f261 a265 a266 => ?_)
  rw [n235'] at n260 k262 k263 k264 f261 a265 a266
  have n260' : La257.1 = 43 := n260
  have κ267 : ∀ j, 1 ≤ j → j < 43 → La257.2.1 j = sg_layL.getD j 0 := fun j h1 h2 => by
    rcases Nat.lt_or_ge j 40 with h | h
    · rw [X259.2.2 _ (by rw [n235']; omega)]; exact κ242 j h1 h
    · have hj : j = 40 ∨ j = 41 ∨ j = 42 := by omega
      rcases hj with rfl | rfl | rfl
      · exact k262
      · exact k263
      · exact k264
  have V268 := V249.fr f261 (by decide +kernel)
  have V269 := V268.cons (c := 40) (i := 1) (v := 0) a265
  have V270 := V269.cons (c := 41) (i := 1) (v := 0) a266
  have z271 : La257.2.1 0 = 31 := by rw [X259.2.2 _ (by rw [n235']; omega)]; exact z246
  intro s272 e273
  have V274 := V270.up (o := 0) (j := 7) (v := (40 : Int)) (e273.trans (by rw [n235']; rfl)) (by decide +kernel)
  intro q275 La276 e277 s278 e279 o280 e281
  subst e277; subst e279; subst e281
  refine t10_new (fun La282 s283 X284 n285 k287 k288 k289 f286 a290 a291 => ?_)
  rw [n260'] at n285 k287 k288 k289 f286 a290 a291
  have n285' : La282.1 = 46 := n285
  have κ292 : ∀ j, 1 ≤ j → j < 46 → La282.2.1 j = sg_layL.getD j 0 := fun j h1 h2 => by
    rcases Nat.lt_or_ge j 43 with h | h
    · rw [X284.2.2 _ (by rw [n260']; omega)]; exact κ267 j h1 h
    · have hj : j = 43 ∨ j = 44 ∨ j = 45 := by omega
      rcases hj with rfl | rfl | rfl
      · exact k287
      · exact k288
      · exact k289
  have V293 := V274.fr f286 (by decide +kernel)
  have V294 := V293.cons (c := 43) (i := 1) (v := 0) a290
  have V295 := V294.cons (c := 44) (i := 1) (v := 0) a291
  have z296 : La282.2.1 0 = 31 := by rw [X284.2.2 _ (by rw [n260']; omega)]; exact z271
  intro s297 e298
  have V299 := V295.up (o := 0) (j := 8) (v := (43 : Int)) (e298.trans (by rw [n260']; rfl)) (by decide +kernel)
  intro q300 La301 e302 s303 e304 o305 e306
  subst e302; subst e304; subst e306
  refine t6_new (fun La307 s308 X309 n310 k312 k313 k314 k315 k316 k317 f311 a318 => ?_)
  rw [n285'] at n310 k312 k313 k314 k315 k316 k317 f311 a318
  have n310' : La307.1 = 52 := n310
  have κ319 : ∀ j, 1 ≤ j → j < 52 → La307.2.1 j = sg_layL.getD j 0 := fun j h1 h2 => by
    rcases Nat.lt_or_ge j 46 with h | h
    · rw [X309.2.2 _ (by rw [n285']; omega)]; exact κ292 j h1 h
    · have hj : j = 46 ∨ j = 47 ∨ j = 48 ∨ j = 49 ∨ j = 50 ∨ j = 51 := by omega
      rcases hj with rfl | rfl | rfl | rfl | rfl | rfl
      · exact k312
      · exact k313
      · exact k314
      · exact k315
      · exact k316
      · exact k317
  have V320 := V299.fr f311 (by decide +kernel)
  have V321 := V320.cons (c := 50) (i := 1) (v := 0) a318
  have z322 : La307.2.1 0 = 31 := by rw [X309.2.2 _ (by rw [n285']; omega)]; exact z296
  intro s323 e324
  have V325 := V321.up (o := 0) (j := 9) (v := (46 : Int)) (e324.trans (by rw [n285']; rfl)) (by decide +kernel)
  intro q326 La327 e328 s329 e330 o331 e332
  subst e328; subst e330; subst e332
  refine tX4_new (by omega) (by omega) (fun La333 s334 X335 n336 k338 k339 f337 a340 a341 a342 a343 => ?_)
  rw [n310'] at n336 k338 k339 f337 a340 a341 a342 a343
  have n336' : La333.1 = 54 := n336
  have κ344 : ∀ j, 1 ≤ j → j < 54 → La333.2.1 j = sg_layL.getD j 0 := fun j h1 h2 => by
    rcases Nat.lt_or_ge j 52 with h | h
    · rw [X335.2.2 _ (by rw [n310']; omega)]; exact κ319 j h1 h
    · have hj : j = 52 ∨ j = 53 := by omega
      rcases hj with rfl | rfl
      · exact k338
      · exact k339
  have V345 := V325.fr f337 (by decide +kernel)
  have V346 := V345.cons (c := 52) (i := 1) (v := 0) a341
  have V347 := V346.cons (c := 52) (i := 2) (v := 0) a342
  have z348 : La333.2.1 0 = 31 := by rw [X335.2.2 _ (by rw [n310']; omega)]; exact z322
  intro s349 e350
  have V351 := V347.up (o := 0) (j := 10) (v := (52 : Int)) (e350.trans (by rw [n310']; rfl)) (by decide +kernel)
  intro q352 La353 e354 s355 e356 o357 e358
  subst e354; subst e356; subst e358
  refine tX4_new (by omega) (by omega) (fun La359 s360 X361 n362 k364 k365 f363 a366 a367 a368 a369 => ?_)
  rw [n336'] at n362 k364 k365 f363 a366 a367 a368 a369
  have n362' : La359.1 = 56 := n362
  have κ370 : ∀ j, 1 ≤ j → j < 56 → La359.2.1 j = sg_layL.getD j 0 := fun j h1 h2 => by
    rcases Nat.lt_or_ge j 54 with h | h
    · rw [X361.2.2 _ (by rw [n336']; omega)]; exact κ344 j h1 h
    · have hj : j = 54 ∨ j = 55 := by omega
      rcases hj with rfl | rfl
      · exact k364
      · exact k365
  have V371 := V351.fr f363 (by decide +kernel)
  have V372 := V371.cons (c := 54) (i := 1) (v := 0) a367
  have V373 := V372.cons (c := 54) (i := 2) (v := 0) a368
  have z374 : La359.2.1 0 = 31 := by rw [X361.2.2 _ (by rw [n336']; omega)]; exact z348
  intro s375 e376
  have V377 := V373.up (o := 0) (j := 11) (v := (54 : Int)) (e376.trans (by rw [n336']; rfl)) (by decide +kernel)
  intro q378 La379 e380 s381 e382 o383 e384
  subst e380; subst e382; subst e384
  refine tX4_new (by omega) (by omega) (fun La385 s386 X387 n388 k390 k391 f389 a392 a393 a394 a395 => ?_)
  rw [n362'] at n388 k390 k391 f389 a392 a393 a394 a395
  have n388' : La385.1 = 58 := n388
  have κ396 : ∀ j, 1 ≤ j → j < 58 → La385.2.1 j = sg_layL.getD j 0 := fun j h1 h2 => by
    rcases Nat.lt_or_ge j 56 with h | h
    · rw [X387.2.2 _ (by rw [n362']; omega)]; exact κ370 j h1 h
    · have hj : j = 56 ∨ j = 57 := by omega
      rcases hj with rfl | rfl
      · exact k390
      · exact k391
  have V397 := V377.fr f389 (by decide +kernel)
  have V398 := V397.cons (c := 56) (i := 1) (v := 0) a393
  have V399 := V398.cons (c := 56) (i := 2) (v := 0) a394
  have z400 : La385.2.1 0 = 31 := by rw [X387.2.2 _ (by rw [n362']; omega)]; exact z374
  intro s401 e402
  have V403 := V399.up (o := 0) (j := 12) (v := (56 : Int)) (e402.trans (by rw [n362']; rfl)) (by decide +kernel)
  intro q404 La405 e406 s407 e408 o409 e410
  subst e406; subst e408; subst e410
  refine tX4_new (by omega) (by omega) (fun La411 s412 X413 n414 k416 k417 f415 a418 a419 a420 a421 => ?_)
  rw [n388'] at n414 k416 k417 f415 a418 a419 a420 a421
  have n414' : La411.1 = 60 := n414
  have κ422 : ∀ j, 1 ≤ j → j < 60 → La411.2.1 j = sg_layL.getD j 0 := fun j h1 h2 => by
    rcases Nat.lt_or_ge j 58 with h | h
    · rw [X413.2.2 _ (by rw [n388']; omega)]; exact κ396 j h1 h
    · have hj : j = 58 ∨ j = 59 := by omega
      rcases hj with rfl | rfl
      · exact k416
      · exact k417
  have V423 := V403.fr f415 (by decide +kernel)
  have V424 := V423.cons (c := 58) (i := 1) (v := 0) a419
  have V425 := V424.cons (c := 58) (i := 2) (v := 0) a420
  have z426 : La411.2.1 0 = 31 := by rw [X413.2.2 _ (by rw [n388']; omega)]; exact z400
  intro s427 e428
  have V429 := V425.up (o := 0) (j := 13) (v := (58 : Int)) (e428.trans (by rw [n388']; rfl)) (by decide +kernel)
  intro q430 La431 e432 s433 e434 o435 e436
  subst e432; subst e434; subst e436
  refine tX4_new (by omega) (by omega) (fun La437 s438 X439 n440 k442 k443 f441 a444 a445 a446 a447 => ?_)
  rw [n414'] at n440 k442 k443 f441 a444 a445 a446 a447
  have n440' : La437.1 = 62 := n440
  have κ448 : ∀ j, 1 ≤ j → j < 62 → La437.2.1 j = sg_layL.getD j 0 := fun j h1 h2 => by
    rcases Nat.lt_or_ge j 60 with h | h
    · rw [X439.2.2 _ (by rw [n414']; omega)]; exact κ422 j h1 h
    · have hj : j = 60 ∨ j = 61 := by omega
      rcases hj with rfl | rfl
      · exact k442
      · exact k443
  have V449 := V429.fr f441 (by decide +kernel)
  have V450 := V449.cons (c := 60) (i := 1) (v := 0) a445
  have V451 := V450.cons (c := 60) (i := 2) (v := 0) a446
  have z452 : La437.2.1 0 = 31 := by rw [X439.2.2 _ (by rw [n414']; omega)]; exact z426
  intro s453 e454
  have V455 := V451.up (o := 0) (j := 14) (v := (60 : Int)) (e454.trans (by rw [n414']; rfl)) (by decide +kernel)
  intro q456 La457 e458 s459 e460 o461 e462
  subst e458; subst e460; subst e462
  refine tX4_new (by omega) (by omega) (fun La463 s464 X465 n466 k468 k469 f467 a470 a471 a472 a473 => ?_)
  rw [n440'] at n466 k468 k469 f467 a470 a471 a472 a473
  have n466' : La463.1 = 64 := n466
  have κ474 : ∀ j, 1 ≤ j → j < 64 → La463.2.1 j = sg_layL.getD j 0 := fun j h1 h2 => by
    rcases Nat.lt_or_ge j 62 with h | h
    · rw [X465.2.2 _ (by rw [n440']; omega)]; exact κ448 j h1 h
    · have hj : j = 62 ∨ j = 63 := by omega
      rcases hj with rfl | rfl
      · exact k468
      · exact k469
  have V475 := V455.fr f467 (by decide +kernel)
  have V476 := V475.cons (c := 62) (i := 1) (v := 0) a471
  have V477 := V476.cons (c := 62) (i := 2) (v := 0) a472
  have z478 : La463.2.1 0 = 31 := by rw [X465.2.2 _ (by rw [n440']; omega)]; exact z452
  intro s479 e480
  have V481 := V477.up (o := 0) (j := 15) (v := (62 : Int)) (e480.trans (by rw [n440']; rfl)) (by decide +kernel)
  intro s482 e483
  have V484 := V481.up (o := 0) (j := 16) (v := 0) (e483.trans (by rfl)) (by decide +kernel)
  intro s485 e486
  have V487 := V484.up (o := 0) (j := 17) (v := 0) (e486.trans (by rfl)) (by decide +kernel)
  intro s488 e489
  have V490 := V487.up (o := 0) (j := 18) (v := (-1)) (e489.trans (by rfl)) (by decide +kernel)
  have b2 : s488 0 2 = 4 := V490 (0, 2, 4) (by decide +kernel)
  have b3 : s488 4 0 = 5 := V490 (4, 0, 5) (by decide +kernel)
  rw [b2, b3]
  have k27 : sg_O La463 4 27 := ⟨by decide, by rw [n466']; decide, κ474 4 (by omega) (by omega)⟩
  refine ⟨k27, by omega, tX1_addAlike (m := 0) (V490 (5, 4, 0) (by decide +kernel)) (by omega) (by omega) (by omega) (fun u1 fu1 c1 ru1 => ?_)⟩
  have W1 : tk_V u1 (tkFL0) := fun q hq => by
    have hh := (by decide +kernel : ∀ q, q ∈ tkFL0 → (q.1 = 5 → q.2.1 ≠ 4) ∧ (q.1 < 6 ∨ 9 < q.1)) q hq
    rw [fu1 _ _ hh.1 (fun a b => absurd hh.2 (by omega))]; exact V490 q ((by decide +kernel : ∀ q, q ∈ tkFL0 → q ∈ ([(0, 18, (-1)), (0, 17, 0), (0, 16, 0), (0, 15, 62), (62, 2, 0), (62, 1, 0), (0, 14, 60), (60, 2, 0), (60, 1, 0), (0, 13, 58), (58, 2, 0), (58, 1, 0), (0, 12, 56), (56, 2, 0), (56, 1, 0), (0, 11, 54), (54, 2, 0), (54, 1, 0), (0, 10, 52), (52, 2, 0), (52, 1, 0), (0, 9, 46), (50, 1, 0), (0, 8, 43), (44, 1, 0), (43, 1, 0), (0, 7, 40), (41, 1, 0), (40, 1, 0), (0, 6, 37), (38, 1, 0), (37, 1, 0), (0, 5, 32), (0, 4, 27), (0, 3, 26), (26, 1, (-1)), (26, 0, (-1)), (0, 2, 4), (25, 3, (-1)), (25, 2, (-1)), (25, 1, (-1)), (25, 0, (-1)), (23, 1, 0), (21, 1, 0), (20, 2, 0), (4, 2, 13), (4, 1, 10), (4, 0, 5), (13, 3, 0), (10, 2, 0), (5, 6, 0), (5, 5, 0), (5, 4, 0), (0, 1, 3), (0, 0, 1), (1, 1, 0)] : List (Int × Int × Int))) q hq)
  have d2 : u1 0 2 = 4 := W1 (0, 2, 4) (by decide +kernel)
  have d3 : u1 4 0 = 5 := W1 (4, 0, 5) (by decide +kernel)
  rw [d2, d3]
  have cb : sp_cB u1 5 b00 := by
    refine ⟨c1, W1 (5, 5, 0) (by decide +kernel), W1 (5, 6, 0) (by decide +kernel), fun i h1 h2 => ?_⟩
    exact ru1 i h1 h2
  refine ⟨k27, by omega, tX1_fillUntold (by omega) cb (fun u2 fu2 c2 => ?_)⟩
  have W2 : tk_V u2 tkFL := fun q hq => by
    have hh := (by decide +kernel : ∀ q, q ∈ tkFL → q ∈ tkFL0 ∧ (q.1 = 5 → q.2.1 ≠ 5 ∧ q.2.1 ≠ 6)) q hq
    rw [fu2 _ _ hh.2]; exact W1 q hh.1
  refine ⟨tk_seal (n := 0) rfl (fun j d hd => ?_), fun La438 e438 => ?_⟩
  · match j, hd with
    | 0, hd => cases Option.some.inj hd; exact tk7 rfl (W2 (0, 0, 1) (by decide +kernel)) (by rw [n466']; decide) (by decide) (κ474 1 (by omega) (by omega)) rfl
    | 1, hd => cases Option.some.inj hd; exact tk7 rfl (W2 (0, 1, 3) (by decide +kernel)) (by rw [n466']; decide) (by decide) (κ474 3 (by omega) (by omega)) rfl
    | 2, hd => cases Option.some.inj hd; exact tk7 rfl (W2 (0, 2, 4) (by decide +kernel)) (by rw [n466']; decide) (by decide) (κ474 4 (by omega) (by omega)) rfl
    | 3, hd => cases Option.some.inj hd; exact tk7 rfl (W2 (0, 3, 26) (by decide +kernel)) (by rw [n466']; decide) (by decide) (κ474 26 (by omega) (by omega)) rfl
    | 4, hd => cases Option.some.inj hd; exact tk7 rfl (W2 (0, 4, 27) (by decide +kernel)) (by rw [n466']; decide) (by decide) (κ474 27 (by omega) (by omega)) rfl
    | 5, hd => cases Option.some.inj hd; exact tk7 rfl (W2 (0, 5, 32) (by decide +kernel)) (by rw [n466']; decide) (by decide) (κ474 32 (by omega) (by omega)) rfl
    | 6, hd => cases Option.some.inj hd; exact tk7 rfl (W2 (0, 6, 37) (by decide +kernel)) (by rw [n466']; decide) (by decide) (κ474 37 (by omega) (by omega)) rfl
    | 7, hd => cases Option.some.inj hd; exact tk7 rfl (W2 (0, 7, 40) (by decide +kernel)) (by rw [n466']; decide) (by decide) (κ474 40 (by omega) (by omega)) rfl
    | 8, hd => cases Option.some.inj hd; exact tk7 rfl (W2 (0, 8, 43) (by decide +kernel)) (by rw [n466']; decide) (by decide) (κ474 43 (by omega) (by omega)) rfl
    | 9, hd => cases Option.some.inj hd; exact tk7 rfl (W2 (0, 9, 46) (by decide +kernel)) (by rw [n466']; decide) (by decide) (κ474 46 (by omega) (by omega)) rfl
    | 10, hd => cases Option.some.inj hd; exact tk7 rfl (W2 (0, 10, 52) (by decide +kernel)) (by rw [n466']; decide) (by decide) (κ474 52 (by omega) (by omega)) rfl
    | 11, hd => cases Option.some.inj hd; exact tk7 rfl (W2 (0, 11, 54) (by decide +kernel)) (by rw [n466']; decide) (by decide) (κ474 54 (by omega) (by omega)) rfl
    | 12, hd => cases Option.some.inj hd; exact tk7 rfl (W2 (0, 12, 56) (by decide +kernel)) (by rw [n466']; decide) (by decide) (κ474 56 (by omega) (by omega)) rfl
    | 13, hd => cases Option.some.inj hd; exact tk7 rfl (W2 (0, 13, 58) (by decide +kernel)) (by rw [n466']; decide) (by decide) (κ474 58 (by omega) (by omega)) rfl
    | 14, hd => cases Option.some.inj hd; exact tk7 rfl (W2 (0, 14, 60) (by decide +kernel)) (by rw [n466']; decide) (by decide) (κ474 60 (by omega) (by omega)) rfl
    | 15, hd => cases Option.some.inj hd; exact tk7 rfl (W2 (0, 15, 62) (by decide +kernel)) (by rw [n466']; decide) (by decide) (κ474 62 (by omega) (by omega)) rfl
    | 16, hd => cases Option.some.inj hd; exact tk0 rfl (W2 (0, 16, 0) (by decide +kernel)) (by decide)
    | 17, hd => cases Option.some.inj hd; exact tk0 rfl (W2 (0, 17, 0) (by decide +kernel)) (by decide)
    | 18, hd => cases Option.some.inj hd; exact tk0 rfl (W2 (0, 18, (-1)) (by decide +kernel)) (by decide)
    | j + 19, hd => cases hd
  · have e438 : La438 = sg_se La463 0 11 := e438
    refine h La438 u2 (by rw [e438, sp_se1, n466']) (fun j hj => ?_) c2 W2
    rcases Nat.eq_zero_or_pos j with h0 | h0
    · subst h0; rw [e438, sp_se_new]; rfl
    · rw [e438, sp_se_kd (by omega)]; exact κ474 j h0 hj
end SGNc
