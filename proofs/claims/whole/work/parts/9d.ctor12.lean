/-! LEVEL 2, a new object of the reference. -/
noncomputable section SGNd
def mv : List (Int × Int) → Int → Int
  | [], f => sg_zero 32 f
  | (a, v) :: l, f => if f = a then v else mv l f
def tm_I (La0 : sg_L) (s0 : sg_M) (La : sg_L) (s : sg_M) (N : Nat) (l : List (Int × Int)) : Prop := La.1 = N ∧ (∀ j, 65 ≤ j → j < N → La.2.1 j = sg_layL.getD j 0) ∧ (∀ j, j < 65 → La.2.1 j = La0.2.1 j) ∧ (∀ c i : Int, 65 ≤ c → c < N → c ≠ 77 → s c i = 0) ∧ (∀ c i : Int, c < 64 → s c i = s0 c i) ∧ (∀ f, s 64 f = mv l f) ∧ (78 ≤ N → ∀ w, 0 ≤ w → w < 5 → s 77 w = -1)
theorem tm_zero {kd : Nat} (h : 10000 ≤ kd ∧ kd < 30000) (i : Int) : sg_zero kd i = 0 := by
  unfold sg_zero sg_dcA
  rw [if_neg (by omega : ¬ kd < 100)]
  by_cases h2 : kd < 20000
  · rw [if_pos h2]; rfl
  · rw [if_neg h2, if_pos h.2]; rfl
theorem tm_kd {La0 La La2 : sg_L} {s0 s : sg_M} {N kd q : Nat} {l : List (Int × Int)} (I : tm_I La0 s0 La s N l) (hk : sg_layL.getD N 0 = kd) (hN : 65 ≤ N) (e2 : La2 = sg_pu La kd q) : La2.1 = N + 1 ∧ (∀ j, 65 ≤ j → j < N + 1 → La2.2.1 j = sg_layL.getD j 0) ∧ (∀ j, j < 65 → La2.2.1 j = La0.2.1 j) := by
  obtain ⟨n, k, k0, -⟩ := I
  subst e2
  refine ⟨by rw [sp_pu1, n], fun j h1 h2 => ?_, fun j h => ?_⟩
  · rcases Nat.lt_or_ge j N with h | h
    · rw [sg_pu_kd (by omega)]; exact k j h1 h
    · have : j = N := by omega
      subst this
      rw [hk, ← n]; exact sg_pu_new
  · rw [sg_pu_kd (by omega)]; exact k0 j h
theorem tm_step {La0 La La2 : sg_L} {s0 s s3 s14 : sg_M} {N kd q : Nat} {l : List (Int × Int)} {o4 f : Int} (I : tm_I La0 s0 La s N l) (hk : sg_layL.getD N 0 = kd) (hz : 10000 ≤ kd ∧ kd < 30000) (hN : 65 ≤ N) (h77 : N ≠ 77) (e2 : La2 = sg_pu La kd q) (e3 : s3 = sg_nw s La.1 kd) (e4 : o4 = (La.1 : Int)) (e14 : s14 = sg_up s3 64 f o4) : tm_I La0 s0 La2 s14 (N + 1) ((f, (N : Int)) :: l) := by
  obtain ⟨a, b, b0⟩ := tm_kd I hk hN e2
  obtain ⟨n, -, -, z, u, g, w7⟩ := I
  rw [n] at e3 e4
  have lo : ∀ c i : Int, c < N → (c = 64 → i ≠ f) → s14 c i = s c i := fun c i h1 h2 => by rw [e14, sg_upN _ (by omega), e3, sp_nwN (by omega)]
  refine ⟨a, b, b0, fun c i h1 h2 h3 => ?_, fun c i h => by rw [lo c i (by omega) (by omega)]; exact u c i h, fun f' => ?_, fun h w h1 h2 => ?_⟩
  · rcases Int.lt_or_le c N with h | h
    · rw [lo c i h (by omega)]; exact z c i h1 h h3
    · have hc : c = N := by omega
      rw [e14, sg_upN _ (by omega), e3]; unfold sg_nw; rw [if_pos hc]; exact tm_zero hz i
  · rw [mv]
    by_cases hf : f' = f
    · rw [if_pos hf, hf, e14, sg_upS, e4]
    · rw [if_neg hf, lo 64 f' (by omega) (fun _ => hf)]; exact g f'
  · rw [lo 77 w (by omega) (by omega)]; exact w7 (by omega) w h1 h2
theorem tm_77 {La0 La La2 : sg_L} {s0 s s3 a0 a1 a2 a3 a4 s14 : sg_M} {q : Nat} {l : List (Int × Int)} {o4 f : Int} (I : tm_I La0 s0 La s 77 l) (e2 : La2 = sg_pu La 10005 q) (e3 : s3 = sg_nw s La.1 10005) (e4 : o4 = (La.1 : Int)) (h0 : a0 = sg_up s3 o4 0 (-1)) (h1 : a1 = sg_up a0 o4 1 (-1)) (h2 : a2 = sg_up a1 o4 2 (-1)) (h3 : a3 = sg_up a2 o4 3 (-1)) (h4 : a4 = sg_up a3 o4 4 (-1)) (e14 : s14 = sg_up a4 64 f o4) : tm_I La0 s0 La2 s14 78 ((f, 77) :: l) := by
  obtain ⟨a, b, b0⟩ := tm_kd I rfl (by omega) e2
  obtain ⟨n, -, -, z, u, g, w7⟩ := I
  rw [n] at e3 e4
  have e4 : o4 = 77 := e4
  subst e4
  have lo : ∀ c i : Int, c < 77 → (c = 64 → i ≠ f) → s14 c i = s c i := fun c i g1 g2 => by rw [e14, sg_upN _ (by omega), h4, sg_upN _ (by omega), h3, sg_upN _ (by omega), h2, sg_upN _ (by omega), h1, sg_upN _ (by omega), h0, sg_upN _ (by omega), e3, sp_nwN (by omega)]
  refine ⟨a, b, b0, fun c i g1 g2 g3 => ?_, fun c i h => by rw [lo c i (by omega) (by omega)]; exact u c i h, fun f' => ?_, fun _ w g1 g2 => ?_⟩
  · rw [lo c i (by omega) (by omega)]; exact z c i g1 (by omega) g3
  · rw [mv]
    by_cases hf : f' = f
    · rw [if_pos hf, hf, e14, sg_upS]
    · rw [if_neg hf, lo 64 f' (by omega) (fun _ => hf)]; exact g f'
  · have hw : w = 0 ∨ w = 1 ∨ w = 2 ∨ w = 3 ∨ w = 4 := by omega
    rcases hw with rfl | rfl | rfl | rfl | rfl
    · rw [e14, sg_upN _ (by omega), h4, sg_upN _ (by omega), h3, sg_upN _ (by omega), h2, sg_upN _ (by omega), h1, sg_upN _ (by omega), h0, sg_upS]
    · rw [e14, sg_upN _ (by omega), h4, sg_upN _ (by omega), h3, sg_upN _ (by omega), h2, sg_upN _ (by omega), h1, sg_upS]
    · rw [e14, sg_upN _ (by omega), h4, sg_upN _ (by omega), h3, sg_upN _ (by omega), h2, sg_upS]
    · rw [e14, sg_upN _ (by omega), h4, sg_upN _ (by omega), h3, sg_upS]
    · rw [e14, sg_upN _ (by omega), h4, sg_upS]
theorem tm_put {La0 La : sg_L} {s0 s s2 : sg_M} {N : Nat} {l : List (Int × Int)} {f v : Int} (I : tm_I La0 s0 La s N l) (e : s2 = sg_up s 64 f v) : tm_I La0 s0 La s2 N ((f, v) :: l) := by
  obtain ⟨n, k, k0, z, u, g, w7⟩ := I
  have lo : ∀ c i : Int, c ≠ 64 → s2 c i = s c i := fun c i h => by rw [e, sg_upN _ (by omega)]
  refine ⟨n, k, k0, fun c i h1 h2 h3 => by rw [lo c i (by omega)]; exact z c i h1 h2 h3, fun c i h => by rw [lo c i (by omega)]; exact u c i h, fun f' => ?_, fun h w h1 h2 => by rw [lo 77 w (by omega)]; exact w7 h w h1 h2⟩
  rw [mv]
  by_cases hf : f' = f
  · rw [if_pos hf, hf, e, sg_upS]
  · rw [if_neg hf, e, sg_upN _ (fun _ b => hf b)]; exact g f'
def mvL : List (Int × Int) := [(57, 87), (56, (-1)), (54, 86), (53, 85), (51, 84), (49, 83), (48, 82), (47, 81), (46, 80), (36, 79), (35, 78), (34, 77), (26, 76), (25, 75), (24, 74), (23, 73), (22, 72), (19, 71), (18, 70), (17, 69), (16, 68), (15, 67), (14, 66), (1, 65)]
theorem t12_init {La : sg_L} {s : sg_M} {Q : sg_L → sg_M → Prop} (n : La.1 = 65) (hz : ∀ f, s 64 f = sg_zero 32 f)
    (h : ∀ (La' : sg_L) (s' : sg_M), La'.1 = 88 → (∀ j, j < 64 → La'.2.1 j = La.2.1 j) → (∀ j, 64 ≤ j → j < 88 → La'.2.1 j = sg_layL.getD j 0) → (∀ c i : Int, 65 ≤ c → c < 88 → c ≠ 77 → s' c i = 0) → (∀ c i : Int, c < 64 → s' c i = s c i) → (∀ f, s' 64 f = mv mvL f) → (∀ w, 0 ≤ w → w < 5 → s' 77 w = -1) → Q La' s') : fX12_init La s 64 Q := by
  have I0 : tm_I La s La s 65 [] := ⟨n, fun j h1 h2 => absurd h2 (by omega), fun _ _ => rfl, fun c i h1 h2 => absurd h2 (by omega), fun _ _ _ => rfl, hz, fun h => absurd h (by omega)⟩
  intro q1 L1 a1 s1 b1 o1 c1
  intro t1 d1
  have I1 := tm_step (f := 1) I0 rfl (by decide) (by decide) (by decide) a1 b1 c1 d1
  intro q2 L2 a2 s2 b2 o2 c2
  intro t2 d2
  have I2 := tm_step (f := 14) I1 rfl (by decide) (by decide) (by decide) a2 b2 c2 d2
  intro q3 L3 a3 s3 b3 o3 c3
  intro t3 d3
  have I3 := tm_step (f := 15) I2 rfl (by decide) (by decide) (by decide) a3 b3 c3 d3
  intro q4 L4 a4 s4 b4 o4 c4
  intro t4 d4
  have I4 := tm_step (f := 16) I3 rfl (by decide) (by decide) (by decide) a4 b4 c4 d4
  intro q5 L5 a5 s5 b5 o5 c5
  intro t5 d5
  have I5 := tm_step (f := 17) I4 rfl (by decide) (by decide) (by decide) a5 b5 c5 d5
  intro q6 L6 a6 s6 b6 o6 c6
  intro t6 d6
  have I6 := tm_step (f := 18) I5 rfl (by decide) (by decide) (by decide) a6 b6 c6 d6
  intro q7 L7 a7 s7 b7 o7 c7
  intro t7 d7
  have I7 := tm_step (f := 19) I6 rfl (by decide) (by decide) (by decide) a7 b7 c7 d7
  intro q8 L8 a8 s8 b8 o8 c8
  intro t8 d8
  have I8 := tm_step (f := 22) I7 rfl (by decide) (by decide) (by decide) a8 b8 c8 d8
  intro q9 L9 a9 s9 b9 o9 c9
  intro t9 d9
  have I9 := tm_step (f := 23) I8 rfl (by decide) (by decide) (by decide) a9 b9 c9 d9
  intro q10 L10 a10 s10 b10 o10 c10
  intro t10 d10
  have I10 := tm_step (f := 24) I9 rfl (by decide) (by decide) (by decide) a10 b10 c10 d10
  intro q11 L11 a11 s11 b11 o11 c11
  intro t11 d11
  have I11 := tm_step (f := 25) I10 rfl (by decide) (by decide) (by decide) a11 b11 c11 d11
  intro q12 L12 a12 s12 b12 o12 c12
  intro t12 d12
  have I12 := tm_step (f := 26) I11 rfl (by decide) (by decide) (by decide) a12 b12 c12 d12
  intro q13 L13 a13 s13 b13 o13 c13
  intro u0 v0 u1 v1 u2 v2 u3 v3 u4 v4
  intro t13 d13
  have I13 := tm_77 (f := 34) I12 a13 b13 c13 v0 v1 v2 v3 v4 d13
  intro q14 L14 a14 s14 b14 o14 c14
  intro t14 d14
  have I14 := tm_step (f := 35) I13 rfl (by decide) (by decide) (by decide) a14 b14 c14 d14
  intro q15 L15 a15 s15 b15 o15 c15
  intro t15 d15
  have I15 := tm_step (f := 36) I14 rfl (by decide) (by decide) (by decide) a15 b15 c15 d15
  intro q16 L16 a16 s16 b16 o16 c16
  intro t16 d16
  have I16 := tm_step (f := 46) I15 rfl (by decide) (by decide) (by decide) a16 b16 c16 d16
  intro q17 L17 a17 s17 b17 o17 c17
  intro t17 d17
  have I17 := tm_step (f := 47) I16 rfl (by decide) (by decide) (by decide) a17 b17 c17 d17
  intro q18 L18 a18 s18 b18 o18 c18
  intro t18 d18
  have I18 := tm_step (f := 48) I17 rfl (by decide) (by decide) (by decide) a18 b18 c18 d18
  intro q19 L19 a19 s19 b19 o19 c19
  intro t19 d19
  have I19 := tm_step (f := 49) I18 rfl (by decide) (by decide) (by decide) a19 b19 c19 d19
  intro q20 L20 a20 s20 b20 o20 c20
  intro t20 d20
  have I20 := tm_step (f := 51) I19 rfl (by decide) (by decide) (by decide) a20 b20 c20 d20
  intro q21 L21 a21 s21 b21 o21 c21
  intro t21 d21
  have I21 := tm_step (f := 53) I20 rfl (by decide) (by decide) (by decide) a21 b21 c21 d21
  intro q22 L22 a22 s22 b22 o22 c22
  intro t22 d22
  have I22 := tm_step (f := 54) I21 rfl (by decide) (by decide) (by decide) a22 b22 c22 d22
  intro sx ex
  have Ix := tm_put I22 ex
  intro q23 L23 a23 s23 b23 o23 c23
  intro t23 d23
  have I23 := tm_step (f := 57) Ix rfl (by decide) (by decide) (by decide) a23 b23 c23 d23
  obtain ⟨n2, k2, k0, z2, u2, g2, w2⟩ := I23
  have g2 : ∀ f, t23 64 f = mv mvL f := g2
  have n2 : L23.1 = 88 := n2
  refine ⟨tk_seal (n := 64) rfl (fun j d hd => ?_), fun La9 e9 => ?_⟩
  · match j, hd with
    | 0, hd => cases Option.some.inj hd; exact tk0 (x := 0) rfl ((g2 0).trans (by decide +kernel)) (by decide)
    | 1, hd => cases Option.some.inj hd; exact tk7 rfl ((g2 1).trans (by decide +kernel)) (by rw [n2]; decide) (by decide) (k2 65 (by omega) (by omega)) rfl
    | 2, hd => cases Option.some.inj hd; exact tk0 (x := 0) rfl ((g2 2).trans (by decide +kernel)) (by decide)
    | 3, hd => cases Option.some.inj hd; exact tk0 (x := 0) rfl ((g2 3).trans (by decide +kernel)) (by decide)
    | 4, hd => cases Option.some.inj hd; exact tk0 (x := 0) rfl ((g2 4).trans (by decide +kernel)) (by decide)
    | 5, hd => cases Option.some.inj hd; exact tk0 (x := 0) rfl ((g2 5).trans (by decide +kernel)) (by decide)
    | 6, hd => cases Option.some.inj hd; exact tk0 (x := 0) rfl ((g2 6).trans (by decide +kernel)) (by decide)
    | 7, hd => cases Option.some.inj hd; exact tk0 (x := 0) rfl ((g2 7).trans (by decide +kernel)) (by decide)
    | 8, hd => cases Option.some.inj hd; exact tk0 (x := 0) rfl ((g2 8).trans (by decide +kernel)) (by decide)
    | 9, hd => cases Option.some.inj hd; exact tk0 (x := 0) rfl ((g2 9).trans (by decide +kernel)) (by decide)
    | 10, hd => cases Option.some.inj hd; exact tk0 (x := 0) rfl ((g2 10).trans (by decide +kernel)) (by decide)
    | 11, hd => cases Option.some.inj hd; exact tk0 (x := 0) rfl ((g2 11).trans (by decide +kernel)) (by decide)
    | 12, hd => cases Option.some.inj hd; exact tk2 (x := 0) rfl ((g2 12).trans (by decide +kernel)) (by decide)
    | 13, hd => cases Option.some.inj hd; exact tk0 (x := 0) rfl ((g2 13).trans (by decide +kernel)) (by decide)
    | 14, hd => cases Option.some.inj hd; exact tk7 rfl ((g2 14).trans (by decide +kernel)) (by rw [n2]; decide) (by decide) (k2 66 (by omega) (by omega)) rfl
    | 15, hd => cases Option.some.inj hd; exact tk7 rfl ((g2 15).trans (by decide +kernel)) (by rw [n2]; decide) (by decide) (k2 67 (by omega) (by omega)) rfl
    | 16, hd => cases Option.some.inj hd; exact tk7 rfl ((g2 16).trans (by decide +kernel)) (by rw [n2]; decide) (by decide) (k2 68 (by omega) (by omega)) rfl
    | 17, hd => cases Option.some.inj hd; exact tk7 rfl ((g2 17).trans (by decide +kernel)) (by rw [n2]; decide) (by decide) (k2 69 (by omega) (by omega)) rfl
    | 18, hd => cases Option.some.inj hd; exact tk7 rfl ((g2 18).trans (by decide +kernel)) (by rw [n2]; decide) (by decide) (k2 70 (by omega) (by omega)) rfl
    | 19, hd => cases Option.some.inj hd; exact tk7 rfl ((g2 19).trans (by decide +kernel)) (by rw [n2]; decide) (by decide) (k2 71 (by omega) (by omega)) rfl
    | 20, hd => cases Option.some.inj hd; exact tk1 (x := 0) rfl ((g2 20).trans (by decide +kernel)) (by decide)
    | 21, hd => cases Option.some.inj hd; exact tk0 (x := 0) rfl ((g2 21).trans (by decide +kernel)) (by decide)
    | 22, hd => cases Option.some.inj hd; exact tk7 rfl ((g2 22).trans (by decide +kernel)) (by rw [n2]; decide) (by decide) (k2 72 (by omega) (by omega)) rfl
    | 23, hd => cases Option.some.inj hd; exact tk7 rfl ((g2 23).trans (by decide +kernel)) (by rw [n2]; decide) (by decide) (k2 73 (by omega) (by omega)) rfl
    | 24, hd => cases Option.some.inj hd; exact tk7 rfl ((g2 24).trans (by decide +kernel)) (by rw [n2]; decide) (by decide) (k2 74 (by omega) (by omega)) rfl
    | 25, hd => cases Option.some.inj hd; exact tk7 rfl ((g2 25).trans (by decide +kernel)) (by rw [n2]; decide) (by decide) (k2 75 (by omega) (by omega)) rfl
    | 26, hd => cases Option.some.inj hd; exact tk7 rfl ((g2 26).trans (by decide +kernel)) (by rw [n2]; decide) (by decide) (k2 76 (by omega) (by omega)) rfl
    | 27, hd => cases Option.some.inj hd; exact tk0 (x := 0) rfl ((g2 27).trans (by decide +kernel)) (by decide)
    | 28, hd => cases Option.some.inj hd; exact tk0 (x := 0) rfl ((g2 28).trans (by decide +kernel)) (by decide)
    | 29, hd => cases Option.some.inj hd; exact tk0 (x := 0) rfl ((g2 29).trans (by decide +kernel)) (by decide)
    | 30, hd => cases Option.some.inj hd; exact tk0 (x := 0) rfl ((g2 30).trans (by decide +kernel)) (by decide)
    | 31, hd => cases Option.some.inj hd; exact tk0 (x := 0) rfl ((g2 31).trans (by decide +kernel)) (by decide)
    | 32, hd => cases Option.some.inj hd; exact tk0 (x := 0) rfl ((g2 32).trans (by decide +kernel)) (by decide)
    | 33, hd => cases Option.some.inj hd; exact tk0 (x := 0) rfl ((g2 33).trans (by decide +kernel)) (by decide)
    | 34, hd => cases Option.some.inj hd; exact tk7 rfl ((g2 34).trans (by decide +kernel)) (by rw [n2]; decide) (by decide) (k2 77 (by omega) (by omega)) rfl
    | 35, hd => cases Option.some.inj hd; exact tk7 rfl ((g2 35).trans (by decide +kernel)) (by rw [n2]; decide) (by decide) (k2 78 (by omega) (by omega)) rfl
    | 36, hd => cases Option.some.inj hd; exact tk7 rfl ((g2 36).trans (by decide +kernel)) (by rw [n2]; decide) (by decide) (k2 79 (by omega) (by omega)) rfl
    | 37, hd => cases Option.some.inj hd; exact tk0 (x := 0) rfl ((g2 37).trans (by decide +kernel)) (by decide)
    | 38, hd => cases Option.some.inj hd; exact tk0 (x := 0) rfl ((g2 38).trans (by decide +kernel)) (by decide)
    | 39, hd => cases Option.some.inj hd; exact tk0 (x := 0) rfl ((g2 39).trans (by decide +kernel)) (by decide)
    | 40, hd => cases Option.some.inj hd; exact tk0 (x := 0) rfl ((g2 40).trans (by decide +kernel)) (by decide)
    | 41, hd => cases Option.some.inj hd; exact tk0 (x := 0) rfl ((g2 41).trans (by decide +kernel)) (by decide)
    | 42, hd => cases Option.some.inj hd; exact tk1 (x := 0) rfl ((g2 42).trans (by decide +kernel)) (by decide)
    | 43, hd => cases Option.some.inj hd; exact tk0 (x := 0) rfl ((g2 43).trans (by decide +kernel)) (by decide)
    | 44, hd => cases Option.some.inj hd; exact tk0 (x := 0) rfl ((g2 44).trans (by decide +kernel)) (by decide)
    | 45, hd => cases Option.some.inj hd; exact tk0 (x := 0) rfl ((g2 45).trans (by decide +kernel)) (by decide)
    | 46, hd => cases Option.some.inj hd; exact tk7 rfl ((g2 46).trans (by decide +kernel)) (by rw [n2]; decide) (by decide) (k2 80 (by omega) (by omega)) rfl
    | 47, hd => cases Option.some.inj hd; exact tk7 rfl ((g2 47).trans (by decide +kernel)) (by rw [n2]; decide) (by decide) (k2 81 (by omega) (by omega)) rfl
    | 48, hd => cases Option.some.inj hd; exact tk7 rfl ((g2 48).trans (by decide +kernel)) (by rw [n2]; decide) (by decide) (k2 82 (by omega) (by omega)) rfl
    | 49, hd => cases Option.some.inj hd; exact tk7 rfl ((g2 49).trans (by decide +kernel)) (by rw [n2]; decide) (by decide) (k2 83 (by omega) (by omega)) rfl
    | 50, hd => cases Option.some.inj hd; exact tk0 (x := 0) rfl ((g2 50).trans (by decide +kernel)) (by decide)
    | 51, hd => cases Option.some.inj hd; exact tk7 rfl ((g2 51).trans (by decide +kernel)) (by rw [n2]; decide) (by decide) (k2 84 (by omega) (by omega)) rfl
    | 52, hd => cases Option.some.inj hd; exact tk0 (x := 0) rfl ((g2 52).trans (by decide +kernel)) (by decide)
    | 53, hd => cases Option.some.inj hd; exact tk7 rfl ((g2 53).trans (by decide +kernel)) (by rw [n2]; decide) (by decide) (k2 85 (by omega) (by omega)) rfl
    | 54, hd => cases Option.some.inj hd; exact tk7 rfl ((g2 54).trans (by decide +kernel)) (by rw [n2]; decide) (by decide) (k2 86 (by omega) (by omega)) rfl
    | 55, hd => cases Option.some.inj hd; exact tk0 (x := 0) rfl ((g2 55).trans (by decide +kernel)) (by decide)
    | 56, hd => cases Option.some.inj hd; exact tk0 (x := (-1)) rfl ((g2 56).trans (by decide +kernel)) (by decide)
    | 57, hd => cases Option.some.inj hd; exact tk7 rfl ((g2 57).trans (by decide +kernel)) (by rw [n2]; decide) (by decide) (k2 87 (by omega) (by omega)) rfl
    | 58, hd => cases Option.some.inj hd; exact tk0 (x := 0) rfl ((g2 58).trans (by decide +kernel)) (by decide)
    | 59, hd => cases Option.some.inj hd; exact tk0 (x := 0) rfl ((g2 59).trans (by decide +kernel)) (by decide)
    | 60, hd => cases Option.some.inj hd; exact tk0 (x := 0) rfl ((g2 60).trans (by decide +kernel)) (by decide)
    | 61, hd => cases Option.some.inj hd; exact tk0 (x := 0) rfl ((g2 61).trans (by decide +kernel)) (by decide)
    | j + 62, hd => cases hd
  · have e9 : La9 = sg_se L23 64 12 := e9
    refine h La9 t23 (by rw [e9, sp_se1, n2]) (fun j hj => ?_) (fun j h1 h2 => ?_) (fun c i h1 h2 h3 => z2 c i h1 (by omega) h3) u2 g2 (w2 (by omega))
    · rw [e9, sp_se_kd (by omega)]; exact k0 j (by omega)
    · by_cases h6 : j = 64
      · subst h6; rw [e9, sp_se_new]; rfl
      · rw [e9, sp_se_kd h6]; exact k2 j (by omega) (by omega)
end SGNd
