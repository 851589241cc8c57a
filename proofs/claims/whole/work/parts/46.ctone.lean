/-! LEVEL 2, the class's tones: root, reaches, leastTone, runs, rings, isTwice, mostKept over its walls (cell 34) and heights (cell 33). -/
noncomputable section SGCa
theorem sp_crStep {x0 : Int} {Q : Int → Prop} {n : Nat} {r b b' : Int} (hx : x0 < 4194304) (hs : Int.tdiv b 2 = b') (hb : 0 < b) (hb' : b = 2 * b' ∨ b = 1 ∧ b' = 0) (h0 : 0 ≤ r) (h4 : r + 2 * b ≤ 2048) (hr : r = 0 ∨ r * r ≤ x0) (hv : x0 < (r + 2 * b) * (r + 2 * b))
    (h : ∀ r' : Int, 0 ≤ r' → r' + b ≤ 2048 → (r' = 0 ∨ r' * r' ≤ x0) → x0 < (r' + b) * (r' + b) → fX0_root_L18 x0 Q n r' b') : fX0_root_L18 x0 Q (n + 1) r b := by
  simp only [fX0_root_L18, fX0_root_j37, hs]
  have h1 : (r + b) * (r + b) ≤ 2048 * 2048 := sg_sq_le (by omega) (by omega)
  have h2 := sg_sq_nn (r + b)
  refine ⟨fun hh => absurd hh (by omega), fun _ => ⟨⟨by omega, by omega⟩, fun hlt => ⟨by omega, ?_⟩, fun hge => ⟨⟨by omega, by omega⟩, by omega, ?_⟩⟩⟩
  · exact h r h0 (by omega) hr hlt
  · refine h (r + b) (by omega) (by omega) (Or.inr (by omega)) ?_
    have : r + b + b = r + 2 * b := by omega
    rw [this]; exact hv
theorem sp_cr64 {x0 r : Int} {Q : Int → Prop} (hx : x0 < 4190209) (h0 : 0 ≤ r) (h4 : r + 2 * 64 ≤ 2048) (hr : r = 0 ∨ r * r ≤ x0) (hv : x0 < (r + 2 * 64) * (r + 2 * 64)) (h : Q (sg_rt x0)) : fX0_root_L18 x0 Q 8 r 64 := by
  refine sp_crStep (b' := 32) (by omega) (by decide) (by omega) (by omega) h0 h4 hr hv (fun r6 a6 b6 c6 d6 => ?_)
  refine sp_crStep (b' := 16) (by omega) (by decide) (by omega) (by omega) a6 (by omega) c6 d6 (fun r7 a7 b7 c7 d7 => ?_)
  refine sp_crStep (b' := 8) (by omega) (by decide) (by omega) (by omega) a7 (by omega) c7 d7 (fun r8 a8 b8 c8 d8 => ?_)
  refine sp_crStep (b' := 4) (by omega) (by decide) (by omega) (by omega) a8 (by omega) c8 d8 (fun r9 a9 b9 c9 d9 => ?_)
  refine sp_crStep (b' := 2) (by omega) (by decide) (by omega) (by omega) a9 (by omega) c9 d9 (fun r10 a10 b10 c10 d10 => ?_)
  refine sp_crStep (b' := 1) (by omega) (by decide) (by omega) (by omega) a10 (by omega) c10 d10 (fun r11 a11 b11 c11 d11 => ?_)
  refine sp_crStep (b' := 0) (by omega) (by decide) (by omega) (by omega) a11 (by omega) c11 d11 (fun r12 a12 b12 c12 d12 => ?_)
  simp only [fX0_root_L18]
  refine ⟨fun _ => ?_, fun hh => absurd (show (0 : Int) ≤ 0 by omega) hh⟩
  have e : sg_rt x0 = r12 := by
    rcases c12 with rfl | c12
    · exact sg_rt_neg (by omega)
    · have : r12 ≤ 2047 := by
        have : r12 < 2047 := sg_sq_invlt (by omega) (by omega)
        omega
      exact sg_rt_eq a12 c12 d12 this
  rw [← e]; exact h
theorem tX0_root {x0 : Int} {Q : Int → Prop} (hx : x0 < 4190209) (h : Q (sg_rt x0)) : fX0_root x0 Q := by
  refine ⟨fun hg => ?_, fun hg => ?_⟩
  · refine ⟨12, ?_⟩
    refine sp_crStep (b' := 512) (by omega) (by decide) (by omega) (by omega) (by omega) (by omega) (Or.inl rfl) (by omega) (fun r2 a2 b2 c2 d2 => ?_)
    refine sp_crStep (b' := 256) (by omega) (by decide) (by omega) (by omega) a2 (by omega) c2 d2 (fun r3 a3 b3 c3 d3 => ?_)
    refine sp_crStep (b' := 128) (by omega) (by decide) (by omega) (by omega) a3 (by omega) c3 d3 (fun r4 a4 b4 c4 d4 => ?_)
    refine sp_crStep (b' := 64) (by omega) (by decide) (by omega) (by omega) a4 (by omega) c4 d4 (fun r5 a5 b5 c5 d5 => ?_)
    exact sp_cr64 hx a5 (by omega) c5 d5 h
  · exact ⟨8, sp_cr64 hx (by omega) (by omega) (Or.inl rfl) (by omega) h⟩
theorem sp_reL24 {W : Int → Int} {f n need : Int} {s : sg_M} {K : Int → Prop} (hf0 : 0 ≤ f) (hf : f ≤ 2000) (hn : n ≤ 60) (hW : ∀ i, 0 ≤ i → i < n → s 34 i = W i) (hb : ∀ i, 0 ≤ i → i < n → 0 ≤ W i ∧ W i ≤ 4000000) :
    ∀ (m : Nat) (x : Int), (m : Int) ≤ n → 0 ≤ x → x + 2047 * m ≤ 300000 → (∀ y, 0 ≤ y → y ≤ x + sg_dn W (f * f) m → (y = x + sg_dn W (f * f) m ∨ need ≤ y) → K y) → fX0_reaches_L24 s f need K (m + 1) x ((m : Int) - 1)
  | 0, x, hm, hx, hx2, h => by
    rw [fX0_reaches_L24]
    exact ⟨fun _ => h x hx (by simp [sg_dn]) (Or.inl (by simp [sg_dn])), fun hh => absurd (show ((0 : Nat) : Int) - 1 < 0 by omega) hh⟩
  | m + 1, x, hm, hx, hx2, h => by
    have hsq := sg_sq_le hf0 hf
    have hsq0 := sg_sq_nn f
    have hw := hW m (by omega) (by omega)
    have hb1 := hb m (by omega) (by omega)
    have h1 := sg_dn_nn W (f * f) m
    have h3 := sg_rt_nn (f * f - W m)
    have h4 := sg_rt_le (f * f - W m)
    rw [fX0_reaches_L24]
    have e : ((m + 1 : Nat) : Int) - 1 = m := by omega
    rw [e]
    simp only [hw]
    rw [sg_dn] at h
    refine ⟨fun hh => absurd hh (by omega), fun _ => ⟨fun g => ?_, fun g => ⟨by omega, by omega, fun g2 => ?_, fun g2 => ⟨by omega, by omega, tX0_root (by omega) ⟨by omega, by omega, ?_⟩⟩⟩⟩⟩
    · exact h x hx (by split <;> omega) (Or.inr g)
    · rw [if_neg (by omega)] at h; exact h x hx (by omega) (Or.inl (by omega))
    · rw [if_pos (by omega)] at h
      exact sp_reL24 hf0 hf hn hW hb m _ (by omega) (by omega) (by omega) (fun y q1 q2 q3 => h y q1 (by omega) (by omega))
theorem sp_reL76 {W : Int → Int} {f n need : Int} {s : sg_M} {K : Int → Prop} (hf0 : 0 ≤ f) (hf : f ≤ 2000) (hn : n ≤ 60) (hsn : s 32 3 = n) (hW : ∀ i, 0 ≤ i → i < n → s 34 i = W i) (hb : ∀ i, 0 ≤ i → i < n → 0 ≤ W i ∧ W i ≤ 4000000) :
    ∀ (m : Nat) (x : Int), (m : Int) ≤ n → 0 ≤ x → x + 2047 * m ≤ 300000 → (∀ y, 0 ≤ y → y ≤ x + sg_rg W (f * f) n m → (y = x + sg_rg W (f * f) n m ∨ need ≤ y) → K y) → fX0_reaches_L76 s f need K (m + 1) x (n - m)
  | 0, x, hm, hx, hx2, h => by
    rw [fX0_reaches_L76]
    exact ⟨fun _ => h x hx (by simp [sg_rg]) (Or.inl (by simp [sg_rg])), fun hh => absurd (show s 32 3 ≤ n - ((0 : Nat) : Int) by omega) hh⟩
  | m + 1, x, hm, hx, hx2, h => by
    have hsq := sg_sq_le hf0 hf
    have hsq0 := sg_sq_nn f
    have hw := hW (n - ((m : Int) + 1)) (by omega) (by omega)
    have hb1 := hb (n - ((m : Int) + 1)) (by omega) (by omega)
    have h1 := sg_rg_nn W (f * f) n m
    have h3 := sg_rt_nn (f * f - W (n - ((m : Int) + 1)))
    have h4 := sg_rt_le (f * f - W (n - ((m : Int) + 1)))
    rw [fX0_reaches_L76]
    have e : n - ((m + 1 : Nat) : Int) = n - ((m : Int) + 1) := by omega
    rw [e]
    simp only [hw]
    rw [sg_rg] at h
    refine ⟨fun hh => absurd hh (by omega), fun _ => ⟨fun g => ?_, fun g => ⟨by omega, by omega, fun g2 => ?_, fun g2 => ⟨by omega, by omega, tX0_root (by omega) ⟨by omega, by omega, ?_⟩⟩⟩⟩⟩
    · exact h x hx (by split <;> omega) (Or.inr g)
    · rw [if_neg (by omega)] at h; exact h x hx (by omega) (Or.inl (by omega))
    · rw [if_pos (by omega)] at h
      rw [show n - ((m : Int) + 1) + 1 = n - m by omega]
      exact sp_reL76 hf0 hf hn hsn hW hb m _ (by omega) (by omega) (by omega) (fun y q1 q2 q3 => h y q1 (by omega) (by omega))
theorem tX0_reaches {W : Int → Int} {f n p need : Int} {s : sg_M} {Q : Int → Prop} (hf0 : 0 ≤ f) (hf : f ≤ 2000) (hn : n ≤ 60) (hsn : s 32 3 = n) (hW : ∀ i, 0 ≤ i → i < n → s 34 i = W i) (hb : ∀ i, 0 ≤ i → i < n → 0 ≤ W i ∧ W i ≤ 4000000)
    (hp0 : 0 ≤ p) (hp : p < n) (hpf : W p < f * f) (h : Q (if need ≤ sg_ph W n p f then 1 else 0)) : fX0_reaches s p f need Q := by
  have hsq := sg_sq_le hf0 hf
  have hsq0 := sg_sq_nn f
  have hb1 := hb p hp0 hp
  have h3 := sg_rt_nn (f * f - W p)
  have h4 := sg_rt_le (f * f - W p)
  have h5 := sg_dn_hi W (f * f) p.toNat
  have h6 := sg_rg_nn W (f * f) n (n - 1 - p).toNat
  have eph : sg_ph W n p f = sg_rt (f * f - W p) + sg_dn W (f * f) p.toNat + sg_rg W (f * f) n (n - 1 - p).toNat := by unfold sg_ph; rw [if_neg (by omega)]
  unfold fX0_reaches
  rw [hW p hp0 hp]
  refine ⟨by omega, by omega, tX0_root (by omega) ⟨by omega, p.toNat + 1, ?_⟩⟩
  have key := sp_reL24 (need := need) (K := fun x5 => sg_R (p + 1) ∧ ∃ n41 : Nat, fX0_reaches_L76 s f need (fun x => (x < need → Q 0) ∧ (¬ (x < need) → Q 1)) n41 x5 (p + 1)) hf0 hf hn hW hb p.toNat (sg_rt (f * f - W p)) (by omega) h3 (by omega) (fun y q1 q2 q3 => ⟨by omega, (n - 1 - p).toNat + 1, ?_⟩)
  · rw [show ((p.toNat : Nat) : Int) - 1 = p - 1 by omega] at key; exact key
  · have key := sp_reL76 (need := need) (K := fun x => (x < need → Q 0) ∧ (¬ (x < need) → Q 1)) hf0 hf hn hsn hW hb (n - 1 - p).toNat y (by omega) q1 (by omega) (fun z g1 g2 g3 => ?_)
    · rw [show n - (((n - 1 - p).toNat : Nat) : Int) = p + 1 by omega] at key; exact key
    · refine ⟨fun hlt => ?_, fun hge => ?_⟩
      · rw [if_neg (by omega)] at h; exact h
      · rw [if_pos (by omega)] at h; exact h
theorem tX0_enoughAlone {W H : Int → Int} {n p need : Int} {s : sg_M} {Q : Int → Prop} (hn : n ≤ 60) (hW : ∀ i, 0 ≤ i → i < n → s 34 i = W i) (hb : ∀ i, 0 ≤ i → i < n → 0 ≤ W i ∧ W i ≤ 4000000) (hH : ∀ i, 0 ≤ i → i < n → 0 ≤ H i ∧ H i ≤ 2000 ∧ W i = H i * H i)
    (hp0 : 0 ≤ p) (hp : p < n) (hneed : 1 ≤ need) (h : ∀ E, (E = 2000 ∨ (H p < E ∧ E ≤ 2000 ∧ need ≤ sg_ph W n p E)) → Q E) : fX0_enoughAlone s p need Q := by
  have hb1 := hb p hp0 hp
  have hh := hH p hp0 hp
  unfold fX0_enoughAlone
  rw [hW p hp0 hp]
  refine ⟨fun _ => h 2000 (Or.inl rfl), fun g => ?_⟩
  have hq := sg_sq_le (a := need) (b := 2000) (by omega) (by omega)
  have hq0 := sg_sq_nn need
  refine ⟨by omega, by omega, fun g2 => ⟨by omega, by omega, tX0_root (by omega) ?_⟩, fun _ => h 2000 (Or.inl rfl)⟩
  have k1 := sg_rt_nn (W p + need * need)
  have k2 := sg_rt_sq (v := W p + need * need) (by omega)
  have k3 := sg_rt_hi (v := W p + need * need) (by omega)
  have k4 : sg_rt (W p + need * need) < 2000 := sg_sq_invlt (by omega) (by omega)
  generalize sg_rt (W p + need * need) = u at *
  have k5 : H p < u + 1 := sg_sq_invlt (by omega) (by omega)
  have k6 : need ≤ sg_rt ((u + 1) * (u + 1) - W p) := sg_rt_max (by omega) (by omega) (by omega)
  refine ⟨by omega, h (u + 1) (Or.inr ⟨k5, by omega, ?_⟩)⟩
  have k7 := sg_dn_nn W ((u + 1) * (u + 1)) p.toNat
  have k8 := sg_rg_nn W ((u + 1) * (u + 1)) n (n - 1 - p).toNat
  unfold sg_ph; rw [if_neg (by omega)]; omega
theorem sp_ltL {W H : Int → Int} {n p need : Int} {s : sg_M} {Q : Int → Prop} (hn : n ≤ 60) (hsn : s 32 3 = n) (hW : ∀ i, 0 ≤ i → i < n → s 34 i = W i) (hb : ∀ i, 0 ≤ i → i < n → 0 ≤ W i ∧ W i ≤ 4000000) (hH : ∀ i, 0 ≤ i → i < n → 0 ≤ H i ∧ H i ≤ 2000 ∧ W i = H i * H i)
    (hp0 : 0 ≤ p) (hp : p < n) (h : Q (sg_tn W n p need)) :
    ∀ (k : Nat) (lo hi : Int), k ≤ 20 → hi - lo < 2 ^ k → H p < lo → lo ≤ hi → hi ≤ 2000 → sg_ph W n p (lo - 1) < need → need ≤ sg_ph W n p hi → fX0_leastTone_L59 s p need Q (k + 1) lo hi (20 - k)
  | 0, lo, hi, hk, h1, h2, h3, h4, h5, h6 => by
    rw [fX0_leastTone_L59]
    have hh := hH p hp0 hp
    have e : hi = lo := by
      have : (2 : Int) ^ 0 = 1 := rfl
      omega
    have et : sg_tn W n p need = lo := sg_tn_eq (by omega) (by omega) (by rw [← e]; exact h6) h5
    refine ⟨fun _ => by rw [← et]; exact h, fun hh => absurd (show (20 : Int) ≤ 20 - ((0 : Nat) : Int) by omega) hh⟩
  | k + 1, lo, hi, hk, h1, h2, h3, h4, h5, h6 => by
    have hh := hH p hp0 hp
    have e2 : (2 : Int) ^ (k + 1) = 2 ^ k * 2 := Int.pow_succ 2 k
    rw [e2] at h1
    generalize hz : (2 : Int) ^ k = z at *
    rw [fX0_leastTone_L59]
    simp only [fX0_leastTone_j106]
    refine ⟨fun hh => absurd hh (by omega), fun _ => ⟨fun g => ?_, fun g => ?_⟩⟩
    · have e : hi = lo := by omega
      have et : sg_tn W n p need = lo := sg_tn_eq (by omega) (by omega) (by rw [← e]; exact h6) h5
      rw [← et]; exact h
    · have ed : Int.tdiv (lo + hi) 2 = (lo + hi) / 2 := Int.tdiv_eq_ediv_of_nonneg (by omega)
      rw [ed]
      have hpm : W p < ((lo + hi) / 2) * ((lo + hi) / 2) := by
        have := sg_sq_lt (a := H p) (b := (lo + hi) / 2) (by omega) (by omega)
        omega
      have e3 : (20 : Int) - ((k + 1 : Nat) : Int) + 1 = 20 - k := by omega
      refine ⟨by omega, by omega, tX0_reaches (W := W) (n := n) (by omega) (by omega) hn hsn hW hb hp0 hp hpm ?_⟩
      split
      · rename_i g2
        refine ⟨fun hh => absurd hh (by omega), fun _ => ⟨by omega, ?_⟩⟩
        rw [e3]
        exact sp_ltL hn hsn hW hb hH hp0 hp h k _ _ (by omega) (by rw [hz]; omega) h2 (by omega) (by omega) h5 g2
      · rename_i g2
        refine ⟨fun _ => fun v22 hv => ⟨by omega, by omega, ?_⟩, fun hh => absurd rfl hh⟩
        rw [e3, hv]
        exact sp_ltL hn hsn hW hb hH hp0 hp h k _ _ (by omega) (by rw [hz]; omega) (by omega) (by omega) h4 (by rw [Int.add_sub_cancel]; omega) h6
theorem tX0_leastTone {W H : Int → Int} {n p need most : Int} {s : sg_M} {Q : Int → Prop} (hn : n ≤ 60) (hsn : s 32 3 = n) (hW : ∀ i, 0 ≤ i → i < n → s 34 i = W i) (hb : ∀ i, 0 ≤ i → i < n → 0 ≤ W i ∧ W i ≤ 4000000) (hH : ∀ i, 0 ≤ i → i < n → 0 ≤ H i ∧ H i ≤ 2000 ∧ W i = H i * H i)
    (hsH : ∀ i, 0 ≤ i → i < n → s 33 i = H i) (hp0 : 0 ≤ p) (hp : p < n) (hneed : 1 ≤ need) (hm0 : 0 ≤ most) (hm : most ≤ 2000) (h : Q (if sg_tn W n p need ≠ 0 ∧ sg_tn W n p need ≤ most then sg_tn W n p need else 0)) : fX0_leastTone s p need most Q := by
  have hh := hH p hp0 hp
  have hb1 := hb p hp0 hp
  have htr := sg_tn_rg W n p need
  -- a tone is higher than the wall of its piece
  have hgt : sg_tn W n p need ≠ 0 → H p < sg_tn W n p need := by
    intro ht
    have k := (sg_tn_pos ht).2.1
    refine sg_sq_invlt htr.1 ?_
    unfold sg_ph at k
    split at k
    · omega
    · omega
  unfold fX0_leastTone
  rw [hsn, hsH p hp0 hp]
  refine ⟨fun g => absurd g (by omega), fun _ => ⟨fun _ => ⟨by omega, ?_⟩, fun g => absurd hp g⟩⟩
  refine tX0_enoughAlone (W := W) (H := H) hn hW hb hH hp0 hp hneed (fun E hE => ⟨by omega, ?_⟩)
  have hmin : sg_min most E = most ∧ most ≤ E ∨ sg_min most E = E ∧ E ≤ most := by unfold sg_min; split <;> omega
  have hEt : sg_tn W n p need ≠ 0 → sg_tn W n p need ≤ E := by
    intro ht
    rcases hE with hE | ⟨hE1, hE2, hE3⟩
    · omega
    · rcases Int.lt_or_le E (sg_tn W n p need) with hlt | hle
      · have := (sg_tn_pos ht).2.2 E (by omega) hlt
        omega
      · exact hle
  refine ⟨fun g => ?_, fun g => ?_⟩
  · rw [if_neg (by intro hc; have := hgt hc.1; have := hEt hc.1; omega)] at h; exact h
  · have hpm : W p < sg_min most E * sg_min most E := by
      have := sg_sq_lt (a := H p) (b := sg_min most E) (by omega) (by omega)
      omega
    refine tX0_reaches (W := W) (n := n) (by omega) (by omega) hn hsn hW hb hp0 hp hpm ?_
    split
    · rename_i g2
      refine ⟨fun _ => ⟨21, ?_⟩, fun hh => absurd hh (by omega)⟩
      have e0 : sg_ph W n p (H p + 1 - 1) = 0 := by
        rw [Int.add_sub_cancel]; unfold sg_ph; rw [if_pos (by omega)]
      have ht : sg_tn W n p need ≠ 0 ∧ sg_tn W n p need ≤ sg_min most E := by
        rcases sg_tn_spec W n p need with ⟨k1, k2⟩ | ⟨k1, k2, k3, k4⟩
        · have := k2 (sg_min most E) (by omega) (by omega); omega
        · refine ⟨by omega, ?_⟩
          rcases Int.lt_or_le (sg_min most E) (sg_tn W n p need) with hlt | hle
          · have := k4 (sg_min most E) (by omega) hlt; omega
          · exact hle
      rw [if_pos ⟨ht.1, by omega⟩] at h
      have h20 : (2 : Int) ^ 20 = 1048576 := by decide
      have := sp_ltL (Q := Q) hn hsn hW hb hH hp0 hp h 20 (H p + 1) (sg_min most E) (by omega) (by rw [h20]; omega) (by omega) (by omega) (by omega) (by rw [e0]; omega) g2
      exact this
    · rename_i g2
      refine ⟨fun hh => absurd rfl hh, fun _ => ?_⟩
      rw [if_neg (by
        intro hc
        have k := sg_ph_mono W n p (f := sg_tn W n p need) (g := sg_min most E) htr.1 (by have := hEt hc.1; omega)
        have := (sg_tn_pos hc.1).2.1
        omega)] at h
      exact h
end SGCa
noncomputable section SGCb
theorem sp_fiL {W : Int → Int} {f n : Int} {s : sg_M} {Q : Int → Prop} (hf0 : 0 ≤ f) (hf : f ≤ 2000) (hn : n ≤ 60) (hsn : s 32 3 = n) (hW : ∀ i, 0 ≤ i → i < n → s 34 i = W i) :
    ∀ (m : Nat), (m : Int) < n → Q (sg_fr W (f * f) m) → fX0_firstOfRun_L2 s f Q (m + 1) m
  | 0, hm, h => by
    rw [fX0_firstOfRun_L2]
    exact ⟨fun _ => h, fun hh => absurd (show ((0 : Nat) : Int) ≤ 0 by omega) hh⟩
  | m + 1, hm, h => by
    have hsq := sg_sq_le hf0 hf
    have hsq0 := sg_sq_nn f
    have hw := hW m (by omega) (by omega)
    rw [fX0_firstOfRun_L2]
    have e : ((m + 1 : Nat) : Int) - 1 = m := by omega
    rw [e]
    simp only [hw]
    rw [sg_fr] at h
    refine ⟨fun hh => absurd hh (by omega), fun _ => ⟨fun hh => absurd hh (by omega), fun _ => ⟨by omega, by omega, fun g => ?_, fun g => ⟨by omega, ?_⟩⟩⟩⟩
    · rw [if_neg (by omega)] at h; rw [show ((m + 1 : Nat) : Int) = (m : Int) + 1 by omega]; exact h
    · rw [if_pos (by omega)] at h; exact sp_fiL hf0 hf hn hsn hW m (by omega) h
theorem tX0_firstOfRun {W : Int → Int} {f n p : Int} {s : sg_M} {Q : Int → Prop} (hf0 : 0 ≤ f) (hf : f ≤ 2000) (hn : n ≤ 60) (hsn : s 32 3 = n) (hW : ∀ i, 0 ≤ i → i < n → s 34 i = W i) (hp0 : 0 ≤ p) (hp : p < n) (hpf : W p < f * f)
    (h : Q (sg_rf1 W p f)) : fX0_firstOfRun s p f Q := by
  refine ⟨p.toNat + 1, ?_⟩
  unfold sg_rf1 at h; rw [if_neg (by omega)] at h
  have := sp_fiL hf0 hf hn hsn hW p.toNat (by omega) h
  rw [show ((p.toNat : Nat) : Int) = p by omega] at this; exact this
theorem sp_laL {W : Int → Int} {f n : Int} {s : sg_M} {Q : Int → Prop} (hf0 : 0 ≤ f) (hf : f ≤ 2000) (hn : n ≤ 60) (hsn : s 32 3 = n) (hW : ∀ i, 0 ≤ i → i < n → s 34 i = W i) :
    ∀ (m : Nat), (m : Int) < n → Q (sg_lr W (f * f) n m) → fX0_lastOfRun_L2 s f Q (m + 1) (n - 1 - m)
  | 0, hm, h => by
    rw [fX0_lastOfRun_L2]
    rw [sg_lr] at h
    have e : n - 1 - ((0 : Nat) : Int) = n - 1 := by omega
    rw [e]
    exact ⟨fun _ => h, fun _ => ⟨by omega, fun _ => h, fun hh => absurd (show s 32 3 - 1 ≤ n - 1 by omega) hh⟩⟩
  | m + 1, hm, h => by
    have hsq := sg_sq_le hf0 hf
    have hsq0 := sg_sq_nn f
    have hw := hW (n - ((m : Int) + 1)) (by omega) (by omega)
    rw [fX0_lastOfRun_L2]
    have e : n - 1 - ((m + 1 : Nat) : Int) + 1 = n - ((m : Int) + 1) := by omega
    rw [e]
    simp only [hw]
    rw [sg_lr] at h
    refine ⟨fun hh => absurd hh (by omega), fun _ => ⟨by omega, fun hh => absurd hh (by omega), fun _ => ⟨by omega, by omega, fun g => ?_, fun g => ⟨by omega, ?_⟩⟩⟩⟩
    · rw [if_neg (by omega)] at h; rw [show n - 1 - ((m + 1 : Nat) : Int) = n - ((m : Int) + 1) - 1 by omega]; exact h
    · rw [if_pos (by omega)] at h; rw [show n - ((m : Int) + 1) = n - 1 - m by omega]; exact sp_laL hf0 hf hn hsn hW m (by omega) h
theorem tX0_lastOfRun {W : Int → Int} {f n p : Int} {s : sg_M} {Q : Int → Prop} (hf0 : 0 ≤ f) (hf : f ≤ 2000) (hn : n ≤ 60) (hsn : s 32 3 = n) (hW : ∀ i, 0 ≤ i → i < n → s 34 i = W i) (hp0 : 0 ≤ p) (hp : p < n) (hpf : W p < f * f)
    (h : Q (sg_rl1 W n p f)) : fX0_lastOfRun s p f Q := by
  refine ⟨(n - 1 - p).toNat + 1, ?_⟩
  unfold sg_rl1 at h; rw [if_neg (by omega)] at h
  have := sp_laL hf0 hf hn hsn hW (n - 1 - p).toNat (by omega) h
  rw [show n - 1 - (((n - 1 - p).toNat : Nat) : Int) = p by omega] at this; exact this
theorem sp_rcL6 {W : Int → Int} {f n a : Int} {s : sg_M} {K : Int → Prop} (hf0 : 0 ≤ f) (hf : f ≤ 2000) (hn : n ≤ 60) (hsn : s 32 3 = n) (hW : ∀ i, 0 ≤ i → i < n → s 34 i = W i) (hb : ∀ i, 0 ≤ i → i < n → 0 ≤ W i ∧ W i ≤ 4000000)
    (han : a ≤ n) : ∀ (r k : Nat), (k : Int) + r = a → K (sg_S (fun i => sg_rt (W i - f * f)) 0 (k + r)) → fX0_rings_L6 s a f K (r + 1) (sg_S (fun i => sg_rt (W i - f * f)) 0 k) k
  | 0, k, hk, h => by
    rw [fX0_rings_L6]
    exact ⟨fun _ => h, fun hh => absurd (show a ≤ k by omega) hh⟩
  | r + 1, k, hk, h => by
    have hsq := sg_sq_le hf0 hf
    have hsq0 := sg_sq_nn f
    have hw := hW k (by omega) (by omega)
    have hb1 := hb k (by omega) (by omega)
    have h1 := sg_S_nn (g := fun i => sg_rt (W i - f * f)) (fun i => sg_rt_nn _) 0 k
    have h2 := sg_S_hi (g := fun i => sg_rt (W i - f * f)) (c := 2047) (fun i => sg_rt_le _) 0 k
    have h3 := sg_rt_nn (W k - f * f)
    have h4 := sg_rt_le (W k - f * f)
    have ih := sp_rcL6 (K := K) hf0 hf hn hsn hW hb han r (k + 1) (by omega) (by rw [show k + 1 + r = k + (r + 1) by omega]; exact h)
    simp only [sg_S, Int.zero_add] at ih
    rw [fX0_rings_L6]
    simp only [hw]
    exact ⟨fun hh => absurd hh (by omega), fun _ => ⟨fun hh => absurd hh (by omega), fun _ => ⟨by omega, by omega, tX0_root (by omega) ⟨by omega, by omega, ih⟩⟩⟩⟩
theorem sp_rcL58 {W : Int → Int} {f n a x : Int} {s : sg_M} {Q : Int → Prop} (hf0 : 0 ≤ f) (hf : f ≤ 2000) (hn : n ≤ 60) (hsn : s 32 3 = n) (hW : ∀ i, 0 ≤ i → i < n → s 34 i = W i) (hb : ∀ i, 0 ≤ i → i < n → 0 ≤ W i ∧ W i ≤ 4000000)
    (ha : 0 ≤ a) : ∀ (r k : Nat), a + k + r = n → Q (sg_min x (sg_S (fun i => sg_rt (W i - f * f)) a (k + r))) → fX0_rings_L58 s f x Q (r + 1) (sg_S (fun i => sg_rt (W i - f * f)) a k) (a + k)
  | 0, k, hk, h => by
    rw [fX0_rings_L58]
    exact ⟨fun _ => h, fun hh => absurd (show s 32 3 ≤ a + k by omega) hh⟩
  | r + 1, k, hk, h => by
    have hsq := sg_sq_le hf0 hf
    have hsq0 := sg_sq_nn f
    have hw := hW (a + k) (by omega) (by omega)
    have hb1 := hb (a + k) (by omega) (by omega)
    have h1 := sg_S_nn (g := fun i => sg_rt (W i - f * f)) (fun i => sg_rt_nn _) a k
    have h2 := sg_S_hi (g := fun i => sg_rt (W i - f * f)) (c := 2047) (fun i => sg_rt_le _) a k
    have h3 := sg_rt_nn (W (a + k) - f * f)
    have h4 := sg_rt_le (W (a + k) - f * f)
    have ih := sp_rcL58 (x := x) (Q := Q) hf0 hf hn hsn hW hb ha r (k + 1) (by omega) (by rw [show k + 1 + r = k + (r + 1) by omega]; exact h)
    rw [show a + ((k + 1 : Nat) : Int) = a + k + 1 by omega] at ih
    simp only [sg_S] at ih
    rw [fX0_rings_L58]
    simp only [hw]
    exact ⟨fun hh => absurd hh (by omega), fun _ => ⟨by omega, by omega, tX0_root (by omega) ⟨by omega, by omega, ih⟩⟩⟩
theorem tX0_rings {W : Int → Int} {f n a b : Int} {s : sg_M} {Q : Int → Prop} (hf0 : 0 ≤ f) (hf : f ≤ 2000) (hn : n ≤ 60) (hsn : s 32 3 = n) (hW : ∀ i, 0 ≤ i → i < n → s 34 i = W i) (hb : ∀ i, 0 ≤ i → i < n → 0 ≤ W i ∧ W i ≤ 4000000)
    (ha0 : 0 ≤ a) (ha : a ≤ n) (hb0 : 0 ≤ b) (hb1 : b < n) (h : Q (sg_ri0 W n a b f)) : fX0_rings s a b f Q := by
  refine ⟨a.toNat + 1, ?_⟩
  have key := sp_rcL6 (K := fun x4 => sg_R (b + 1) ∧ ∃ n24 : Nat, fX0_rings_L58 s f x4 Q n24 0 (sg_max 0 (b + 1))) hf0 hf hn hsn hW hb ha a.toNat 0 (by omega) ?_
  · simpa [sg_S] using key
  · refine ⟨by omega, (n - 1 - b).toNat + 1, ?_⟩
    have em : sg_max 0 (b + 1) = b + 1 := by unfold sg_max; rw [if_pos (by omega)]
    have key := sp_rcL58 (x := sg_S (fun i => sg_rt (W i - f * f)) 0 (0 + a.toNat)) (Q := Q) hf0 hf hn hsn hW hb (a := b + 1) (by omega) (n - 1 - b).toNat 0 (by omega) (by rw [Nat.zero_add, Nat.zero_add]; exact h)
    rw [em]
    simpa [sg_S] using key
/-- the highest of k heights from a on -/
def sp_mx (H : Int → Int) (a : Int) : Nat → Int
  | 0 => 0
  | k + 1 => sg_max (sp_mx H a k) (H (a + k))
theorem sp_mx_rg {H : Int → Int} {n : Int} (hH : ∀ i, 0 ≤ i → i < n → 0 ≤ H i ∧ H i ≤ 2000) {a : Int} (ha : 0 ≤ a) : ∀ k : Nat, a + k ≤ n → 0 ≤ sp_mx H a k ∧ sp_mx H a k ≤ 2000
  | 0, _ => by simp [sp_mx]
  | k + 1, hk => by
    have h := sp_mx_rg hH ha k (by omega)
    have h2 := hH (a + k) (by omega) (by omega)
    unfold sp_mx sg_max; split <;> omega
theorem sp_mx_le {H : Int → Int} {f : Int} (hf : 1 ≤ f) (a : Int) : ∀ k : Nat, f ≤ sp_mx H a k ↔ ∃ i, a ≤ i ∧ i < a + k ∧ f ≤ H i
  | 0 => by
    simp only [sp_mx]
    exact ⟨fun h => by omega, fun ⟨i, h1, h2, _⟩ => by omega⟩
  | k + 1 => by
    have ih := sp_mx_le (H := H) hf a k
    rw [sp_mx]
    constructor
    · intro h
      by_cases hc : f ≤ sp_mx H a k
      · obtain ⟨i, h1, h2, h3⟩ := ih.mp hc
        exact ⟨i, h1, by omega, h3⟩
      · refine ⟨a + k, by omega, by omega, ?_⟩
        unfold sg_max at h; split at h <;> omega
    · rintro ⟨i, h1, h2, h3⟩
      by_cases hc : i < a + k
      · have := ih.mpr ⟨i, h1, hc, h3⟩
        unfold sg_max; split <;> omega
      · have e : i = a + k := by omega
        rw [e] at h3
        unfold sg_max; split <;> omega
theorem sp_fr_pos (W : Int → Int) (q : Int) : ∀ m : Nat, 0 < sg_fr W q m ↔ ∃ i, 0 ≤ i ∧ i < (m : Int) ∧ q ≤ W i
  | 0 => by
    simp only [sg_fr]
    exact ⟨fun h => by omega, fun ⟨i, h1, h2, _⟩ => by omega⟩
  | m + 1 => by
    have ih := sp_fr_pos W q m
    rw [sg_fr]
    split
    · rename_i hw
      rw [ih]
      constructor
      · rintro ⟨i, h1, h2, h3⟩; exact ⟨i, h1, by omega, h3⟩
      · rintro ⟨i, h1, h2, h3⟩
        refine ⟨i, h1, ?_, h3⟩
        by_cases hc : i = (m : Int)
        · rw [hc] at h3; omega
        · omega
    · rename_i hw
      exact ⟨fun _ => ⟨m, by omega, by omega, by omega⟩, fun _ => by omega⟩
theorem sp_lr_pos (W : Int → Int) (q n : Int) : ∀ m : Nat, sg_lr W q n m < n - 1 ↔ ∃ i, n - m ≤ i ∧ i < n ∧ q ≤ W i
  | 0 => by
    simp only [sg_lr]
    exact ⟨fun h => by omega, fun ⟨i, h1, h2, _⟩ => by omega⟩
  | m + 1 => by
    have ih := sp_lr_pos W q n m
    rw [sg_lr]
    split
    · rename_i hw
      rw [ih]
      constructor
      · rintro ⟨i, h1, h2, h3⟩; exact ⟨i, by omega, h2, h3⟩
      · rintro ⟨i, h1, h2, h3⟩
        refine ⟨i, ?_, h2, h3⟩
        by_cases hc : i = n - ((m : Int) + 1)
        · rw [hc] at h3; omega
        · omega
    · rename_i hw
      exact ⟨fun _ => ⟨n - ((m : Int) + 1), by omega, by omega, by omega⟩, fun _ => by omega⟩
theorem sp_kL4 {H : Int → Int} {n p : Int} {s : sg_M} {K : Int → Prop} (hn : n ≤ 60) (hsn : s 32 3 = n) (hsH : ∀ i, 0 ≤ i → i < n → s 33 i = H i) (hp : p < n) : ∀ (r k : Nat), (k : Int) + r = p → K (sp_mx H 0 (k + r)) → fX0_mostKept_L4 s p K (r + 1) (sp_mx H 0 k) k
  | 0, k, hk, h => by
    rw [fX0_mostKept_L4]
    exact ⟨fun _ => h, fun hh => absurd (show p ≤ k by omega) hh⟩
  | r + 1, k, hk, h => by
    have ih := sp_kL4 (K := K) hn hsn hsH hp r (k + 1) (by omega) (by rw [show k + 1 + r = k + (r + 1) by omega]; exact h)
    rw [sp_mx, Int.zero_add, show ((k + 1 : Nat) : Int) = (k : Int) + 1 by omega] at ih
    rw [fX0_mostKept_L4, hsH k (by omega) (by omega)]
    exact ⟨fun hh => absurd hh (by omega), fun _ => ⟨fun hh => absurd hh (by omega), fun _ => ⟨by omega, by omega, ih⟩⟩⟩
theorem sp_kL45 {H : Int → Int} {n a x : Int} {s : sg_M} {Q : Int → Prop} (hn : n ≤ 60) (hsn : s 32 3 = n) (hsH : ∀ i, 0 ≤ i → i < n → s 33 i = H i) (ha : 0 ≤ a) : ∀ (r k : Nat), a + k + r = n → Q (sg_min x (sp_mx H a (k + r))) → fX0_mostKept_L45 s x Q (r + 1) (sp_mx H a k) (a + k)
  | 0, k, hk, h => by
    rw [fX0_mostKept_L45]
    exact ⟨fun _ => h, fun hh => absurd (show s 32 3 ≤ a + k by omega) hh⟩
  | r + 1, k, hk, h => by
    have ih := sp_kL45 (x := x) (Q := Q) hn hsn hsH ha r (k + 1) (by omega) (by rw [show k + 1 + r = k + (r + 1) by omega]; exact h)
    rw [sp_mx, show a + ((k + 1 : Nat) : Int) = a + k + 1 by omega] at ih
    rw [fX0_mostKept_L45, hsH (a + k) (by omega) (by omega)]
    exact ⟨fun hh => absurd hh (by omega), fun _ => ⟨by omega, by omega, ih⟩⟩
theorem tX0_mostKept {W H : Int → Int} {n p : Int} {s : sg_M} {Q : Int → Prop} (hn : n ≤ 60) (hsn : s 32 3 = n) (hH : ∀ i, 0 ≤ i → i < n → 0 ≤ H i ∧ H i ≤ 2000 ∧ W i = H i * H i) (hsH : ∀ i, 0 ≤ i → i < n → s 33 i = H i) (hp0 : 0 ≤ p) (hp : p < n)
    (h : ∀ mk, 0 ≤ mk → mk ≤ 2000 → (∀ f, 1 ≤ f → W p < f * f → (f ≤ mk ↔ sg_sh W n p f ≠ 0)) → Q mk) : fX0_mostKept s p Q := by
  have hH' : ∀ i, 0 ≤ i → i < n → 0 ≤ H i ∧ H i ≤ 2000 := fun i q1 q2 => ⟨(hH i q1 q2).1, (hH i q1 q2).2.1⟩
  refine ⟨p.toNat + 1, ?_⟩
  refine sp_kL4 (K := fun x2 => sg_R (p + 1) ∧ ∃ n16 : Nat, fX0_mostKept_L45 s x2 Q n16 0 (sg_max 0 (p + 1))) hn hsn hsH hp p.toNat 0 (by omega) ?_
  refine ⟨by omega, (n - 1 - p).toNat + 1, ?_⟩
  have em : sg_max 0 (p + 1) = p + 1 := by unfold sg_max; rw [if_pos (by omega)]
  rw [em, Nat.zero_add]
  have h1 := sp_mx_rg hH' (a := 0) (by omega) p.toNat (by omega)
  have h2 := sp_mx_rg hH' (a := p + 1) (by omega) (n - 1 - p).toNat (by omega)
  have key := sp_kL45 (x := sp_mx H 0 p.toNat) (Q := Q) hn hsn hsH (a := p + 1) (by omega) (n - 1 - p).toNat 0 (by omega) ?_
  · rw [sp_mx] at key
    rw [show p + 1 + ((0 : Nat) : Int) = p + 1 by omega] at key; exact key
  · rw [Nat.zero_add]
    refine h _ (by unfold sg_min; split <;> omega) (by unfold sg_min; split <;> omega) (fun f hf hpf => ?_)
    have e1 : f ≤ sg_min (sp_mx H 0 p.toNat) (sp_mx H (p + 1) (n - 1 - p).toNat) ↔ f ≤ sp_mx H 0 p.toNat ∧ f ≤ sp_mx H (p + 1) (n - 1 - p).toNat := by
      unfold sg_min; split <;> omega
    have hq : ∀ i, 0 ≤ i → i < n → (f ≤ H i ↔ f * f ≤ W i) := fun i q1 q2 => by
      have k := hH i q1 q2
      rw [k.2.2]
      exact ⟨fun g => sg_sq_le (by omega) g, fun g => sg_sq_inv k.1 g⟩
    have e2 : f ≤ sp_mx H 0 p.toNat ↔ 0 < sg_rf1 W p f := by
      unfold sg_rf1
      rw [if_neg (by omega), sp_mx_le hf, sp_fr_pos]
      constructor
      · rintro ⟨i, q1, q2, q3⟩; exact ⟨i, q1, by omega, (hq i q1 (by omega)).mp q3⟩
      · rintro ⟨i, q1, q2, q3⟩; exact ⟨i, q1, by omega, (hq i q1 (by omega)).mpr q3⟩
    have e3 : f ≤ sp_mx H (p + 1) (n - 1 - p).toNat ↔ sg_rl1 W n p f < n - 1 := by
      unfold sg_rl1
      rw [if_neg (by omega), sp_mx_le hf, sp_lr_pos]
      constructor
      · rintro ⟨i, q1, q2, q3⟩; exact ⟨i, by omega, by omega, (hq i (by omega) (by omega)).mp q3⟩
      · rintro ⟨i, q1, q2, q3⟩; exact ⟨i, by omega, by omega, (hq i (by omega) (by omega)).mpr q3⟩
    rw [e1, e2, e3]
    unfold sg_sh
    constructor
    · intro g; rw [if_neg (by omega), if_neg (by omega)]; omega
    · intro g; split at g
      · omega
      · split at g <;> omega
end SGCb
