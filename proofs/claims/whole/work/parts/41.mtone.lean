/-! LEVEL 2, the reference's tones: root, phases, toneOf, isShut, isTwice, rings, strengthAt over its walls (cell 73). -/
noncomputable section SGMa
theorem sg_upS (s : sg_M) (o j v : Int) : sg_up s o j v o j = v := by simp [sg_up]
theorem sg_upN (s : sg_M) {o j v a b : Int} (h : a = o → b = j → False) : sg_up s o j v a b = s a b := by
  unfold sg_up; rw [if_neg (fun hh => h hh.1 hh.2)]
theorem sg_upU (s : sg_M) (o j v w : Int) : sg_up (sg_up s o j v) o j w = sg_up s o j w := by
  funext a b; unfold sg_up; split <;> rfl
theorem sg_upC (s : sg_M) {o j v o' j' w : Int} (h : o = o' → j = j' → False) : sg_up (sg_up s o j v) o' j' w = sg_up (sg_up s o' j' w) o j v := by
  funext a b; unfold sg_up
  by_cases h1 : a = o ∧ b = j
  · by_cases h2 : a = o' ∧ b = j'
    · exact absurd (h1.2.symm.trans h2.2) (fun e => h (h1.1.symm.trans h2.1) e)
    · rw [if_neg h2, if_pos h1, if_pos h1]
  · rw [if_neg h1, if_neg h1]
theorem sg_upI (s : sg_M) (o j : Int) : sg_up s o j (s o j) = s := by
  funext a b; unfold sg_up; split
  · rename_i h; rw [h.1, h.2]
  · rfl
theorem sg_rootStep {x0 : Int} {Q : Int → Prop} {n : Nat} {r b b' : Int} (hx : x0 < 4194304) (hs : sg_shr b 1 = b') (hb : 0 < b) (hb' : b = 2 * b' ∨ b = 1 ∧ b' = 0) (h0 : 0 ≤ r) (h4 : r + 2 * b ≤ 4096) (hr : r = 0 ∨ r * r ≤ x0) (hv : x0 < (r + 2 * b) * (r + 2 * b))
    (h : ∀ r' : Int, 0 ≤ r' → r' + b ≤ 4096 → (r' = 0 ∨ r' * r' ≤ x0) → x0 < (r' + b) * (r' + b) → fX12_root_L6 x0 Q n r' b') : fX12_root_L6 x0 Q (n + 1) r b := by
  simp only [fX12_root_L6, fX12_root_j25, hs]
  have h1 : (r + b) * (r + b) ≤ 4096 * 4096 := sg_sq_le (by omega) (by omega)
  have h2 := sg_sq_nn (r + b)
  refine ⟨fun hh => absurd hh (by omega), fun _ => ⟨⟨by omega, by omega⟩, fun hlt => ?_, fun hge => ⟨⟨by omega, by omega⟩, ?_⟩⟩⟩
  · exact h r h0 (by omega) hr hlt
  · refine h (r + b) (by omega) (by omega) (Or.inr (by omega)) ?_
    have : r + b + b = r + 2 * b := by omega
    rw [this]; exact hv
theorem tX12_root {x0 : Int} {Q : Int → Prop} (hx : x0 < 4190209) (h : Q (sg_rt x0)) : fX12_root x0 Q := by
  refine ⟨13, ?_⟩
  refine sg_rootStep (b' := 1024) (by omega) (by decide) (by omega) (by omega) (by omega) (by omega) (Or.inl rfl) (by omega) (fun r1 a1 b1 c1 d1 => ?_)
  refine sg_rootStep (b' := 512) (by omega) (by decide) (by omega) (by omega) a1 (by omega) c1 d1 (fun r2 a2 b2 c2 d2 => ?_)
  refine sg_rootStep (b' := 256) (by omega) (by decide) (by omega) (by omega) a2 (by omega) c2 d2 (fun r3 a3 b3 c3 d3 => ?_)
  refine sg_rootStep (b' := 128) (by omega) (by decide) (by omega) (by omega) a3 (by omega) c3 d3 (fun r4 a4 b4 c4 d4 => ?_)
  refine sg_rootStep (b' := 64) (by omega) (by decide) (by omega) (by omega) a4 (by omega) c4 d4 (fun r5 a5 b5 c5 d5 => ?_)
  refine sg_rootStep (b' := 32) (by omega) (by decide) (by omega) (by omega) a5 (by omega) c5 d5 (fun r6 a6 b6 c6 d6 => ?_)
  refine sg_rootStep (b' := 16) (by omega) (by decide) (by omega) (by omega) a6 (by omega) c6 d6 (fun r7 a7 b7 c7 d7 => ?_)
  refine sg_rootStep (b' := 8) (by omega) (by decide) (by omega) (by omega) a7 (by omega) c7 d7 (fun r8 a8 b8 c8 d8 => ?_)
  refine sg_rootStep (b' := 4) (by omega) (by decide) (by omega) (by omega) a8 (by omega) c8 d8 (fun r9 a9 b9 c9 d9 => ?_)
  refine sg_rootStep (b' := 2) (by omega) (by decide) (by omega) (by omega) a9 (by omega) c9 d9 (fun r10 a10 b10 c10 d10 => ?_)
  refine sg_rootStep (b' := 1) (by omega) (by decide) (by omega) (by omega) a10 (by omega) c10 d10 (fun r11 a11 b11 c11 d11 => ?_)
  refine sg_rootStep (b' := 0) (by omega) (by decide) (by omega) (by omega) a11 (by omega) c11 d11 (fun r12 a12 b12 c12 d12 => ?_)
  simp only [fX12_root_L6]
  refine ⟨fun _ => ?_, fun hh => absurd (show (0 : Int) ≤ 0 by omega) hh⟩
  have e : sg_rt x0 = r12 := by
    rcases c12 with rfl | c12
    · exact sg_rt_neg (by omega)
    · have : r12 ≤ 2047 := by
        have : r12 < 2047 := sg_sq_invlt (by omega) (by omega)
        omega
      exact sg_rt_eq a12 c12 d12 this
  rw [← e]; exact h
end SGMa
noncomputable section SGMb
/-- the reference's run: cells 64 32 and 64 33 -/
def sg_rn (s : sg_M) (a b : Int) : sg_M := sg_up (sg_up s 64 32 a) 64 33 b
theorem sg_rn_rn (s : sg_M) (a b c d : Int) : sg_rn (sg_rn s a b) c d = sg_rn s c d := by
  funext x y; unfold sg_rn sg_up; repeat' split
  all_goals first | rfl | (exfalso; omega)
theorem sg_rn_rd (s : sg_M) (a b x y : Int) (h : x = 64 → y ≠ 32 ∧ y ≠ 33) : sg_rn s a b x y = s x y := by
  unfold sg_rn
  rw [sg_upN _ (fun h1 h2 => (h h1).2 h2), sg_upN _ (fun h1 h2 => (h h1).1 h2)]
theorem sg_rn_a (s : sg_M) (a b : Int) : sg_rn s a b 64 32 = a := by unfold sg_rn; rw [sg_upN _ (by omega), sg_upS]
theorem sg_rn_b (s : sg_M) (a b : Int) : sg_rn s a b 64 33 = b := by unfold sg_rn; rw [sg_upS]
theorem sg_phL24 {W : Int → Int} {f n : Int} {k : sg_M → Prop} (hf0 : 0 ≤ f) (hf : f ≤ 2000) (hn : n ≤ 60) : ∀ (m : Nat) (s : sg_M), (m : Int) < n → (∀ i, 0 ≤ i → i < n → s 73 i = W i) → s 64 32 = m →
    k (sg_up s 64 32 (sg_fr W (f * f) m)) → fX12_phases_L24 f k (m + 1) s
  | 0, s, hm, hW, hs, h => by
    have e : sg_fr W (f * f) 0 = s 64 32 := by rw [hs]; rfl
    rw [e, sg_upI] at h
    simp only [fX12_phases_L24]
    exact ⟨fun _ => h, fun hh => absurd (show s 64 32 ≤ 0 by omega) hh⟩
  | m + 1, s, hm, hW, hs, h => by
    have hsq := sg_sq_le hf0 hf
    have hsq0 := sg_sq_nn f
    have e : s 64 32 - 1 = m := by omega
    have hw := hW m (by omega) (by omega)
    simp only [fX12_phases_L24, e, hw]
    refine ⟨fun hh => absurd hh (by omega), fun _ => ⟨by omega, by omega, fun h1 => ?_, fun h1 => ⟨by omega, ?_⟩⟩⟩
    · have e2 : sg_fr W (f * f) (m + 1) = s 64 32 := by rw [hs, sg_fr, if_neg (by omega)]; omega
      rw [e2, sg_upI] at h
      exact h
    · intro s20 h20
      have e2 : sg_fr W (f * f) (m + 1) = sg_fr W (f * f) m := by rw [sg_fr, if_pos (by omega)]
      rw [e2] at h
      subst h20
      refine sg_phL24 (W := W) hf0 hf hn m _ (by omega) (fun i h1 h2 => ?_) (sg_upS _ _ _ _) ?_
      · rw [sg_upN _ (by omega)]; exact hW i h1 h2
      · rw [sg_upU]; exact h
theorem sg_phL61 {W : Int → Int} {f n : Int} {k : sg_M → Prop} (hf0 : 0 ≤ f) (hf : f ≤ 2000) (hn : n ≤ 60) : ∀ (m : Nat) (s : sg_M), (m : Int) < n → s 64 27 = n → (∀ i, 0 ≤ i → i < n → s 73 i = W i) → s 64 33 = n - 1 - m →
    k (sg_up s 64 33 (sg_lr W (f * f) n m)) → fX12_phases_L61 f k (m + 1) s
  | 0, s, hm, hsn, hW, hs, h => by
    have e : sg_lr W (f * f) n 0 = s 64 33 := by rw [hs]; simp [sg_lr]
    rw [e, sg_upI] at h
    simp only [fX12_phases_L61]
    exact ⟨by omega, fun _ => h, fun hh => absurd (show s 64 27 - 1 ≤ s 64 33 by omega) hh⟩
  | m + 1, s, hm, hsn, hW, hs, h => by
    have hsq := sg_sq_le hf0 hf
    have hsq0 := sg_sq_nn f
    have e : s 64 33 + 1 = n - ((m : Int) + 1) := by omega
    have hw := hW (n - ((m : Int) + 1)) (by omega) (by omega)
    simp only [fX12_phases_L61, e, hw, hsn]
    refine ⟨by omega, fun hh => absurd hh (by omega), fun _ => ⟨by omega, by omega, fun h1 => ?_, fun h1 => ⟨by omega, ?_⟩⟩⟩
    · have e2 : sg_lr W (f * f) n (m + 1) = s 64 33 := by rw [hs, sg_lr, if_neg (by omega)]; omega
      rw [e2, sg_upI] at h
      exact h
    · intro s20 h20
      have e2 : sg_lr W (f * f) n (m + 1) = sg_lr W (f * f) n m := by rw [sg_lr, if_pos (by omega)]
      rw [e2] at h
      subst h20
      refine sg_phL61 (W := W) hf0 hf hn m _ (by omega) (by rw [sg_upN _ (by omega)]; exact hsn) (fun i h1 h2 => ?_) (by rw [sg_upS]; omega) ?_
      · rw [sg_upN _ (by omega)]; exact hW i h1 h2
      · rw [sg_upU]; exact h
theorem sg_phL112 {W : Int → Int} {f n : Int} {s : sg_M} {Q : Int → sg_M → Prop} (hf0 : 0 ≤ f) (hf : f ≤ 2000) (hn : n ≤ 60) (hW : ∀ i, 0 ≤ i → i < n → s 73 i = W i) (hb : ∀ i, 0 ≤ i → i < n → 0 ≤ W i ∧ W i ≤ 4000000)
    (a : Int) (ha : 0 ≤ a) (hl : s 64 33 < n) : ∀ (r k : Nat), a + k + r = s 64 33 + 1 → Q (sg_S (fun i => sg_rt (f * f - W i)) a (k + r)) s → fX12_phases_L112 f s Q (r + 1) (sg_S (fun i => sg_rt (f * f - W i)) a k) (a + k)
  | 0, k, hk, h => by
    simp only [fX12_phases_L112]
    exact ⟨fun _ => h, fun hh => absurd (show s 64 33 < a + k by omega) hh⟩
  | r + 1, k, hk, h => by
    have hsq := sg_sq_le hf0 hf
    have hsq0 := sg_sq_nn f
    have hw := hW (a + k) (by omega) (by omega)
    have hb1 := hb (a + k) (by omega) (by omega)
    have h1 := sg_S_nn (g := fun i => sg_rt (f * f - W i)) (fun i => sg_rt_nn _) a k
    have h2 := sg_S_hi (g := fun i => sg_rt (f * f - W i)) (c := 2047) (fun i => sg_rt_le _) a k
    have h3 := sg_rt_nn (f * f - W (a + k))
    have h4 := sg_rt_le (f * f - W (a + k))
    simp only [fX12_phases_L112, hw]
    refine ⟨fun hh => absurd hh (by omega), fun _ => ⟨by omega, by omega, ?_⟩⟩
    refine tX12_root (by omega) ⟨by omega, by omega, ?_⟩
    have := sg_phL112 hf0 hf hn hW hb a ha hl r (k + 1) (by omega) (by rw [show k + 1 + r = k + (r + 1) by omega]; exact h)
    rw [show a + ((k + 1 : Nat) : Int) = a + k + 1 by omega] at this
    exact this
theorem tX12_phases {W : Int → Int} {f n p : Int} {s : sg_M} {Q : Int → sg_M → Prop} (hf0 : 0 ≤ f) (hf : f ≤ 2000) (hn : n ≤ 60) (hsn : s 64 27 = n) (hW : ∀ i, 0 ≤ i → i < n → s 73 i = W i) (hb : ∀ i, 0 ≤ i → i < n → 0 ≤ W i ∧ W i ≤ 4000000)
    (hp0 : 0 ≤ p) (hp : p < n) (h : Q (sg_ph W n p f) (sg_rn s (sg_rf1 W p f) (sg_rl1 W n p f))) : fX12_phases s p f Q := by
  have hsq := sg_sq_le hf0 hf
  have hsq0 := sg_sq_nn f
  unfold fX12_phases
  intro s1 h1 s3 h3
  have e3 : s3 = sg_rn s p p := by rw [h3, h1]; rfl
  have hw : s3 73 p = W p := by rw [e3, sg_rn_rd _ _ _ _ _ (by omega)]; exact hW p hp0 hp
  refine ⟨by omega, by omega, fun hlt => ?_, fun hge => ?_⟩
  · rw [hw] at hlt
    have hr := sg_rn_rg W hp0 hp f
    have ef : sg_rf1 W p f = sg_fr W (f * f) p.toNat := by unfold sg_rf1; rw [if_neg (by omega)]
    have el : sg_rl1 W n p f = sg_lr W (f * f) n (n - 1 - p).toNat := by unfold sg_rl1; rw [if_neg (by omega)]
    refine ⟨p.toNat + 1, sg_phL24 (W := W) hf0 hf hn _ _ (by omega) (fun i g1 g2 => ?_) ?_ ⟨(n - 1 - p).toNat + 1, sg_phL61 (W := W) hf0 hf hn _ _ (by omega) ?_ (fun i g1 g2 => ?_) ?_ ?_⟩⟩
    · rw [e3, sg_rn_rd _ _ _ _ _ (by omega)]; exact hW i g1 g2
    · rw [e3, sg_rn_a]; omega
    · rw [sg_upN _ (by omega), e3, sg_rn_rd _ _ _ _ _ (by omega)]; exact hsn
    · rw [sg_upN _ (by omega), e3, sg_rn_rd _ _ _ _ _ (by omega)]; exact hW i g1 g2
    · rw [sg_upN _ (by omega), e3, sg_rn_b]; omega
    · rw [← ef, ← el]
      have e4 : sg_up (sg_up s3 64 32 (sg_rf1 W p f)) 64 33 (sg_rl1 W n p f) = sg_rn s (sg_rf1 W p f) (sg_rl1 W n p f) := by
        rw [e3]; exact sg_rn_rn _ _ _ _ _
      rw [e4]
      have e5 := sg_ph_S hp0 hp hlt
      refine ⟨(sg_rl1 W n p f + 1 - sg_rf1 W p f).toNat + 1, ?_⟩
      rw [sg_rn_a]
      have := sg_phL112 (s := sg_rn s (sg_rf1 W p f) (sg_rl1 W n p f)) (Q := Q) hf0 hf hn (fun i g1 g2 => by rw [sg_rn_rd _ _ _ _ _ (by omega)]; exact hW i g1 g2) hb (sg_rf1 W p f) hr.1 (by rw [sg_rn_b]; omega)
        (sg_rl1 W n p f + 1 - sg_rf1 W p f).toNat 0 (by rw [sg_rn_b]; omega) (by rw [Nat.zero_add, ← e5]; exact h)
      simpa [sg_S] using this
  · rw [hw] at hge
    have e1 : sg_ph W n p f = 0 := by unfold sg_ph; rw [if_pos (by omega)]
    have e2 : sg_rf1 W p f = p := by unfold sg_rf1; rw [if_pos (by omega)]
    have e4 : sg_rl1 W n p f = p := by unfold sg_rl1; rw [if_pos (by omega)]
    rw [e1, e2, e4] at h
    rw [e3]; exact h
end SGMb
noncomputable section SGMc
theorem sg_rn_id (s : sg_M) : sg_rn s (s 64 32) (s 64 33) = s := by
  unfold sg_rn; rw [sg_upI, sg_upI]
theorem sg_toL {W : Int → Int} {n p m need : Int} {s : sg_M} {Q : Int → sg_M → Prop} (hn : n ≤ 60) (hsn : s 64 27 = n) (hW : ∀ i, 0 ≤ i → i < n → s 73 i = W i) (hb : ∀ i, 0 ≤ i → i < n → 0 ≤ W i ∧ W i ≤ 4000000)
    (hp0 : 0 ≤ p) (hp : p < n) (hneed : (2 * m + 1) * s 64 28 = need) (h : sg_tn W n p need ≠ 0 → Q (sg_tn W n p need) (sg_rn s (sg_rf1 W p (sg_tn W n p need)) (sg_rl1 W n p (sg_tn W n p need)))) :
    ∀ (k : Nat) (lo hi x y : Int), hi - lo ≤ k → 0 ≤ lo → lo < hi → hi ≤ 2000 → sg_ph W n p lo < need → need ≤ sg_ph W n p hi → fX12_toneOf_L41 s p m Q k (sg_rn s x y) lo hi
  | 0, lo, hi, x, y, h1, h2, h3, h4, h5, h6 => by omega
  | k + 1, lo, hi, x, y, h1, h2, h3, h4, h5, h6 => by
    have hsn' : ∀ x y, sg_rn s x y 64 27 = n := fun x y => by rw [sg_rn_rd _ _ _ _ _ (by omega)]; exact hsn
    have hW' : ∀ x y i, 0 ≤ i → i < n → sg_rn s x y 73 i = W i := fun x y i g1 g2 => by rw [sg_rn_rd _ _ _ _ _ (by omega)]; exact hW i g1 g2
    simp only [fX12_toneOf_L41, fX12_toneOf_j81, hneed]
    refine ⟨by omega, fun hle => ?_, fun hgt => ?_⟩
    · have e : hi = lo + 1 := by omega
      have et : sg_tn W n p need = hi := sg_tn_eq (by omega) h4 h6 (by rw [e, Int.add_sub_cancel]; exact h5)
      refine tX12_phases (W := W) (n := n) (by omega) h4 hn (hsn' x y) (hW' x y) hb hp0 hp ?_
      rw [sg_rn_rn]
      have := h (by omega)
      rw [et] at this; exact this
    · have ed : Int.tdiv (lo + hi) 2 = (lo + hi) / 2 := Int.tdiv_eq_ediv_of_nonneg (by omega)
      rw [ed]
      refine ⟨by omega, by omega, ?_⟩
      refine tX12_phases (W := W) (n := n) (by omega) (by omega) hn (hsn' x y) (hW' x y) hb hp0 hp ?_
      rw [sg_rn_rn]
      refine ⟨fun hlt => ?_, fun hge => ?_⟩
      · exact sg_toL hn hsn hW hb hp0 hp hneed h k _ _ _ _ (by omega) (by omega) (by omega) h4 hlt h6
      · exact sg_toL hn hsn hW hb hp0 hp hneed h k _ _ _ _ (by omega) h2 (by omega) (by omega) h5 (by omega)
theorem tX12_toneOf {W : Int → Int} {n p m u : Int} {s : sg_M} {Q : Int → sg_M → Prop} (hn : n ≤ 60) (hsn : s 64 27 = n) (hW : ∀ i, 0 ≤ i → i < n → s 73 i = W i) (hb : ∀ i, 0 ≤ i → i < n → 0 ≤ W i ∧ W i ≤ 4000000)
    (hp0 : 0 ≤ p) (hp : p < n) (hm0 : 0 ≤ m) (hm : m ≤ 5) (hu : s 64 28 = u) (hu0 : 1 ≤ u) (hu1 : u ≤ 9999)
    (h0 : (s 64 30 ≠ -1 ∨ sg_tn W n p ((2 * m + 1) * u) = 0) → ∀ a b, Q (-1) (sg_rn s a b))
    (h1 : s 64 30 = -1 → sg_tn W n p ((2 * m + 1) * u) ≠ 0 → Q (sg_tn W n p ((2 * m + 1) * u)) (sg_rn s (sg_rf1 W p (sg_tn W n p ((2 * m + 1) * u))) (sg_rl1 W n p (sg_tn W n p ((2 * m + 1) * u))))) : fX12_toneOf s p m Q := by
  have hneed : 1 ≤ (2 * m + 1) * u := by
    have h1 : 1 * 1 ≤ (2 * m + 1) * u := Int.mul_le_mul (by omega) hu0 (by omega) (by omega)
    omega
  have hneed2 : (2 * m + 1) * u ≤ 11 * 9999 := Int.mul_le_mul (by omega) hu1 (by omega) (by omega)
  unfold fX12_toneOf
  refine ⟨fun hb => ?_, fun hb' => ?_⟩
  · have := h0 (Or.inl hb) (s 64 32) (s 64 33)
    rw [sg_rn_id] at this; exact this
  · refine tX12_phases (W := W) (n := n) (by omega) (by omega) hn hsn hW hb hp0 hp ?_
    rw [hu]
    refine ⟨by omega, fun hle => ?_, fun hgt => ?_⟩
    · refine ⟨2000, ?_⟩
      have e0 : sg_ph W n p 0 = 0 := by
        have := (hb p hp0 hp).1
        unfold sg_ph; rw [if_pos (by omega)]
      exact sg_toL hn hsn hW hb hp0 hp (by rw [hu]) (h1 hb') 2000 0 2000 _ _ (by omega) (by omega) (by omega) (by omega) (by omega) hle
    · exact h0 (Or.inr (sg_tn_none (by omega))) _ _
/-- whether the run leaves a wall on both sides -/
def sg_sh (W : Int → Int) (n p f : Int) : Int := if sg_rf1 W p f ≤ 0 then 0 else if n - 1 ≤ sg_rl1 W n p f then 0 else 1
def sg_ri0 (W : Int → Int) (n a b f : Int) : Int := sg_min (sg_S (fun i => sg_rt (W i - f * f)) 0 a.toNat) (sg_S (fun i => sg_rt (W i - f * f)) (b + 1) (n - 1 - b).toNat)
def sg_ri (W : Int → Int) (n p f : Int) : Int := if sg_sh W n p f = 0 then 0 else sg_ri0 W n (sg_rf1 W p f) (sg_rl1 W n p f) f
theorem tX12_isShut {s : sg_M} {n a b : Int} {Q : Int → Prop} (hn0 : 0 ≤ n) (hn : n ≤ 60) (hsn : s 64 27 = n) (ha : s 64 32 = a) (hb : s 64 33 = b) (h : Q (if a ≤ 0 then 0 else if n - 1 ≤ b then 0 else 1)) : fX12_isShut s Q := by
  unfold fX12_isShut
  rw [ha, hb, hsn]
  refine ⟨fun h1 => by rw [if_pos h1] at h; exact h, fun h1 => ⟨by omega, fun h2 => ?_, fun h2 => ?_⟩⟩
  · rw [if_neg h1, if_pos h2] at h; exact h
  · rw [if_neg h1, if_neg h2] at h; exact h
theorem sg_riL16 {W : Int → Int} {f n a : Int} {s : sg_M} {K : Int → Prop} (hf0 : 0 ≤ f) (hf : f ≤ 2000) (hn : n ≤ 60) (hW : ∀ i, 0 ≤ i → i < n → s 73 i = W i) (hb : ∀ i, 0 ≤ i → i < n → 0 ≤ W i ∧ W i ≤ 4000000)
    (ha : s 64 32 = a) (han : a ≤ n) : ∀ (r k : Nat), (k : Int) + r = a → K (sg_S (fun i => sg_rt (W i - f * f)) 0 (k + r)) → fX12_rings_L16 s f K (r + 1) (sg_S (fun i => sg_rt (W i - f * f)) 0 k) k
  | 0, k, hk, h => by
    simp only [fX12_rings_L16]
    exact ⟨fun _ => h, fun hh => absurd (show s 64 32 ≤ k by omega) hh⟩
  | r + 1, k, hk, h => by
    have hsq := sg_sq_le hf0 hf
    have hsq0 := sg_sq_nn f
    have hw := hW k (by omega) (by omega)
    have hb1 := hb k (by omega) (by omega)
    have h1 := sg_S_nn (g := fun i => sg_rt (W i - f * f)) (fun i => sg_rt_nn _) 0 k
    have h2 := sg_S_hi (g := fun i => sg_rt (W i - f * f)) (c := 2047) (fun i => sg_rt_le _) 0 k
    have h3 := sg_rt_nn (W k - f * f)
    have h4 := sg_rt_le (W k - f * f)
    have ih := sg_riL16 (K := K) hf0 hf hn hW hb ha han r (k + 1) (by omega) (by rw [show k + 1 + r = k + (r + 1) by omega]; exact h)
    simp only [sg_S, Int.zero_add] at ih
    rw [fX12_rings_L16]
    simp only [fX12_rings_j55, hw]
    refine ⟨fun hh => absurd hh (by omega), fun _ => ⟨by omega, by omega, fun g => ⟨by omega, ?_⟩, fun g => ⟨by omega, by omega, tX12_root (by omega) ⟨by omega, by omega, ih⟩⟩⟩⟩
    rw [sg_rt_neg (by omega), Int.add_zero] at ih
    exact ih
theorem sg_riL69 {W : Int → Int} {f n a : Int} {s : sg_M} {K : Int → Prop} (hf0 : 0 ≤ f) (hf : f ≤ 2000) (hn : n ≤ 60) (hsn : s 64 27 = n) (hW : ∀ i, 0 ≤ i → i < n → s 73 i = W i) (hb : ∀ i, 0 ≤ i → i < n → 0 ≤ W i ∧ W i ≤ 4000000)
    (ha : 0 ≤ a) : ∀ (r k : Nat), a + k + r = n → K (sg_S (fun i => sg_rt (W i - f * f)) a (k + r)) → fX12_rings_L69 s f K (r + 1) (sg_S (fun i => sg_rt (W i - f * f)) a k) (a + k)
  | 0, k, hk, h => by
    simp only [fX12_rings_L69]
    exact ⟨fun _ => h, fun hh => absurd (show s 64 27 ≤ a + k by omega) hh⟩
  | r + 1, k, hk, h => by
    have hsq := sg_sq_le hf0 hf
    have hsq0 := sg_sq_nn f
    have hw := hW (a + k) (by omega) (by omega)
    have hb1 := hb (a + k) (by omega) (by omega)
    have h1 := sg_S_nn (g := fun i => sg_rt (W i - f * f)) (fun i => sg_rt_nn _) a k
    have h2 := sg_S_hi (g := fun i => sg_rt (W i - f * f)) (c := 2047) (fun i => sg_rt_le _) a k
    have h3 := sg_rt_nn (W (a + k) - f * f)
    have h4 := sg_rt_le (W (a + k) - f * f)
    have ih := sg_riL69 (K := K) hf0 hf hn hsn hW hb ha r (k + 1) (by omega) (by rw [show k + 1 + r = k + (r + 1) by omega]; exact h)
    rw [show a + ((k + 1 : Nat) : Int) = a + k + 1 by omega] at ih
    simp only [sg_S] at ih
    rw [fX12_rings_L69]
    simp only [fX12_rings_j108, hw, hsn]
    refine ⟨fun hh => absurd hh (by omega), fun _ => ⟨by omega, by omega, fun g => ⟨by omega, ?_⟩, fun g => ⟨by omega, by omega, tX12_root (by omega) ⟨by omega, by omega, ih⟩⟩⟩⟩
    rw [sg_rt_neg (by omega), Int.add_zero] at ih
    exact ih
theorem tX12_rings {W : Int → Int} {f n p : Int} {s : sg_M} {Q : Int → Prop} (hf0 : 0 ≤ f) (hf : f ≤ 2000) (hn : n ≤ 60) (hsn : s 64 27 = n) (hW : ∀ i, 0 ≤ i → i < n → s 73 i = W i) (hb : ∀ i, 0 ≤ i → i < n → 0 ≤ W i ∧ W i ≤ 4000000)
    (hp0 : 0 ≤ p) (hp : p < n) (ha : s 64 32 = sg_rf1 W p f) (hl : s 64 33 = sg_rl1 W n p f) (h : Q (sg_ri W n p f)) : fX12_rings s f Q := by
  have hr := sg_rn_rg W hp0 hp f
  unfold fX12_rings
  refine tX12_isShut (by omega) hn hsn ha hl ?_
  unfold sg_ri at h
  change (sg_sh W n p f ≠ 0 → _) ∧ (sg_sh W n p f = 0 → _)
  refine ⟨fun hs => ?_, fun hs => by rw [if_pos hs] at h; exact h⟩
  rw [if_neg hs] at h
  have hs2 : ¬ n - 1 ≤ sg_rl1 W n p f := by
    intro hh; apply hs; unfold sg_sh; split
    · rfl
    · rfl
  refine ⟨(sg_rf1 W p f).toNat + 1, ?_⟩
  have := sg_riL16 (W := W) (f := f) (n := n) (s := s) (K := fun x2 => sg_R (s 64 33 + 1) ∧ ∃ n37, fX12_rings_L69 s f (fun x3 => (x3 ≤ x2 → Q x3) ∧ (¬ x3 ≤ x2 → Q x2)) n37 0 (s 64 33 + 1)) hf0 hf hn hW hb ha (by omega) (sg_rf1 W p f).toNat 0 (by omega) ?_
  · simpa [sg_S] using this
  · rw [hl]
    refine ⟨by omega, (n - 1 - sg_rl1 W n p f).toNat + 1, ?_⟩
    have := sg_riL69 (W := W) (f := f) (n := n) (s := s) (K := fun x3 => (x3 ≤ sg_S (fun i => sg_rt (W i - f * f)) 0 (0 + (sg_rf1 W p f).toNat) → Q x3) ∧ (¬ x3 ≤ sg_S (fun i => sg_rt (W i - f * f)) 0 (0 + (sg_rf1 W p f).toNat) → Q (sg_S (fun i => sg_rt (W i - f * f)) 0 (0 + (sg_rf1 W p f).toNat))))
      hf0 hf hn hsn hW hb (a := sg_rl1 W n p f + 1) (by omega) (n - 1 - sg_rl1 W n p f).toNat 0 (by omega) ?_
    · simpa [sg_S] using this
    · unfold sg_ri0 sg_min at h
      simp only [Nat.zero_add]
      refine ⟨fun g => ?_, fun g => ?_⟩
      · by_cases g2 : sg_S (fun i => sg_rt (W i - f * f)) (sg_rl1 W n p f + 1) (n - 1 - sg_rl1 W n p f).toNat < sg_S (fun i => sg_rt (W i - f * f)) 0 (sg_rf1 W p f).toNat
        · rw [if_pos g2] at h; exact h
        · rw [if_neg g2] at h
          have e : sg_S (fun i => sg_rt (W i - f * f)) (sg_rl1 W n p f + 1) (n - 1 - sg_rl1 W n p f).toNat = sg_S (fun i => sg_rt (W i - f * f)) 0 (sg_rf1 W p f).toNat := by omega
          rw [e]; exact h
      · rw [if_neg (by omega)] at h; exact h
end SGMc
