/-! LEVEL 2, calls over one bend: breaks, place, tone, where; the class's sound and tellStrengths. -/
noncomputable section SGT1
/-- the strengths of tone f of the run round p at the first m pieces -/
def sp_sg (W : Int → Int) (n u p f : Int) : Nat → List Int
  | 0 => []
  | m + 1 => sp_sg W n u p f m ++ [sg_st W u f (sg_rf1 W p f) (sg_rl1 W n p f) m]
theorem sp_sg_len (W : Int → Int) (n u p f : Int) : ∀ m : Nat, (sp_sg W n u p f m).length = m
  | 0 => rfl
  | m + 1 => by rw [sp_sg, List.length_append, sp_sg_len W n u p f m]; rfl
/-- what has been passed of the run a..b before i -/
def sp_ah (W : Int → Int) (f a b i : Int) : Int := sg_S (fun j => sg_rt (f * f - W j)) a ((if i ≤ b then i else b + 1) - a).toNat
theorem sp_tsL {La : sg_L} {B : sg_M} {o a b f p : Int} {Q : sg_M → Prop} {s0 s : sg_M} (hok : sp_ok B) (hln : sg_ln La (o + 1 + 1) = 60) (ho : 36 < o) (ho2 : o < 1000) (hf0 : 0 ≤ f) (hf : f ≤ 2000) (hp0 : 0 ≤ p) (hp : p < B 4 0) (e1 : s0 o 1 = f) (e2 : s0 32 4 = B 4 1)
    (hs3 : s 32 3 = B 4 0) (hW : ∀ i, 0 ≤ i → i < B 4 0 → s 34 i = sp_W B a b i) (ha : s o 2 = sg_rf1 (sp_W B a b) p f) (hl : s o 3 = sg_rl1 (sp_W B a b) (B 4 0) p f)
    (h : ∀ t, (∀ c i, (c = o + 1 → i ≠ 1) → c ≠ o + 1 + 1 → t c i = s c i) → sp_rw t (o + 1) (sp_sg (sp_W B a b) (B 4 0) (B 4 1) p f (B 4 0).toNat) → Q t) :
    ∀ (r m : Nat) (t : sg_M), (m : Int) + r = B 4 0 → (∀ c i, (c = o + 1 → i ≠ 1) → c ≠ o + 1 + 1 → t c i = s c i) → sp_rw t (o + 1) (sp_sg (sp_W B a b) (B 4 0) (B 4 1) p f m) →
      fX0_tellStrengths_L34 La s0 o Q (r + 1) t (sp_ah (sp_W B a b) f (sg_rf1 (sp_W B a b) p f) (sg_rl1 (sp_W B a b) (B 4 0) p f) m) m
  | 0, m, t, hm, hF, hr => by
    have e3 : t 32 3 = B 4 0 := by rw [hF 32 3 (by omega) (by omega)]; exact hs3
    rw [fX0_tellStrengths_L34]
    have e : (B 4 0).toNat = m := by omega
    rw [e] at h
    exact ⟨fun _ => h t hF hr, fun hh => absurd (show t 32 3 ≤ m by omega) hh⟩
  | r + 1, m, t, hm, hF, hr => by
    have hn60 := hok.2.1
    have hu0 := hok.2.2.1
    have hu1 := hok.2.2.2.1
    have e3 : t 32 3 = B 4 0 := by rw [hF 32 3 (by omega) (by omega)]; exact hs3
    have ea : t o 2 = sg_rf1 (sp_W B a b) p f := by rw [hF o 2 (by omega) (by omega)]; exact ha
    have el : t o 3 = sg_rl1 (sp_W B a b) (B 4 0) p f := by rw [hF o 3 (by omega) (by omega)]; exact hl
    have ew : t 34 m = sp_W B a b m := by rw [hF 34 m (by omega) (by omega)]; exact hW m (by omega) (by omega)
    have hrr := sg_rn_rg (sp_W B a b) hp0 hp f
    have hsq := sg_sq_le hf0 hf
    have hsq0 := sg_sq_nn f
    have hb1 := sp_W_rg B a b m
    have h3 := sg_rt_nn (f * f - sp_W B a b m)
    have h4 := sg_rt_le (f * f - sp_W B a b m)
    have hlen := sp_sg_len (sp_W B a b) (B 4 0) (B 4 1) p f m
    have hr1 := hr.1
    rw [hlen] at hr1
    have emx : sg_max 1 (2 * B 4 1) = 2 * B 4 1 := by unfold sg_max; rw [if_pos (by omega)]
    -- a step
    have step : ∀ x4 x6 : Int, x4 = sp_ah (sp_W B a b) f (sg_rf1 (sp_W B a b) p f) (sg_rl1 (sp_W B a b) (B 4 0) p f) ((m : Int) + 1) → x6 = sg_st (sp_W B a b) (B 4 1) f (sg_rf1 (sp_W B a b) p f) (sg_rl1 (sp_W B a b) (B 4 0) p f) m →
        fX0_tellStrengths_j107 La o t m (fX0_tellStrengths_L34 La s0 o Q (r + 1)) x4 x6 := by
      intro x4 x6 h4' h6
      refine tX4_add (c := 60) hln (by omega) (by omega) (by omega) ⟨by omega, ?_⟩
      have ih := sp_tsL (La := La) hok hln ho ho2 hf0 hf hp0 hp e1 e2 hs3 hW ha hl h r (m + 1) (sg_up (sg_up t (o + 1 + 1) (t (o + 1) 1) x6) (o + 1) 1 (t (o + 1) 1 + 1)) (by omega) (fun c i q1 q2 => ?_) ?_
      · rw [h4', show (m : Int) + 1 = ((m + 1 : Nat) : Int) by omega]; exact ih
      · rw [sg_upN _ (by omega), sg_upN _ (by omega)]; exact hF c i q1 q2
      · rw [sp_sg, ← h6]; exact sp_rw_snoc hr
    have hS := sg_S_nn (g := fun j => sg_rt (f * f - sp_W B a b j)) (fun i => sg_rt_nn _) (sg_rf1 (sp_W B a b) p f) ((if (m : Int) ≤ sg_rl1 (sp_W B a b) (B 4 0) p f then (m : Int) else sg_rl1 (sp_W B a b) (B 4 0) p f + 1) - sg_rf1 (sp_W B a b) p f).toNat
    have hS2 := sg_S_hi (g := fun j => sg_rt (f * f - sp_W B a b j)) (c := 2047) (fun i => sg_rt_le _) (sg_rf1 (sp_W B a b) p f) ((if (m : Int) ≤ sg_rl1 (sp_W B a b) (B 4 0) p f then (m : Int) else sg_rl1 (sp_W B a b) (B 4 0) p f + 1) - sg_rf1 (sp_W B a b) p f).toNat
    rw [fX0_tellStrengths_L34, e1, e2, e3, ea, el, ew, emx]
    refine ⟨fun hh => absurd hh (by omega), fun _ => ⟨fun g => ?_, fun g => ⟨fun g2 => ?_, fun g2 => ?_⟩⟩⟩
    · refine step _ _ ?_ ?_
      · unfold sp_ah
        rw [if_pos (by omega), if_pos (by omega), show ((m : Int) - sg_rf1 (sp_W B a b) p f).toNat = 0 by omega, show ((m : Int) + 1 - sg_rf1 (sp_W B a b) p f).toNat = 0 by omega]
      · unfold sg_st; rw [if_pos g]
    · refine step _ _ ?_ ?_
      · unfold sp_ah
        rw [if_neg (by omega), if_neg (by omega)]
      · unfold sg_st; rw [if_neg g, if_pos g2]
    · have ed : Int.tdiv (sg_rt (f * f - sp_W B a b m)) 2 = sg_rt (f * f - sp_W B a b m) / 2 := Int.tdiv_eq_ediv_of_nonneg h3
      rw [if_pos (show (m : Int) ≤ sg_rl1 (sp_W B a b) (B 4 0) p f by omega)] at hS hS2
      have eah : sp_ah (sp_W B a b) f (sg_rf1 (sp_W B a b) p f) (sg_rl1 (sp_W B a b) (B 4 0) p f) m = sg_S (fun j => sg_rt (f * f - sp_W B a b j)) (sg_rf1 (sp_W B a b) p f) ((m : Int) - sg_rf1 (sp_W B a b) p f).toNat := by
        unfold sp_ah; rw [if_pos (by omega)]
      rw [eah]
      have efo : sg_S (fun j => sg_rt (f * f - sp_W B a b j)) (sg_rf1 (sp_W B a b) p f) ((m : Int) - sg_rf1 (sp_W B a b) p f).toNat + Int.tdiv (sg_rt (f * f - sp_W B a b m)) 2 = sg_fo (sp_W B a b) f (sg_rf1 (sp_W B a b) p f) m := by
        unfold sg_fo; rw [Int.add_comm]
      refine ⟨by omega, by omega, tX0_root (by omega) ⟨by rw [ed]; omega, by omega, fun v24 h24 => ?_⟩⟩
      rw [efo] at h24
      have hx : 0 ≤ sg_fo (sp_W B a b) f (sg_rf1 (sp_W B a b) p f) m := by rw [← efo, ed]; omega
      have hm0 := Int.tmod_nonneg (2 * B 4 1) hx
      have hm1 := Int.tmod_lt_of_pos (sg_fo (sp_W B a b) f (sg_rf1 (sp_W B a b) p f) m) (show 0 < 2 * B 4 1 by omega)
      rw [← h24] at hm0 hm1
      refine ⟨by omega, by omega, fun v28 h28 => ?_⟩
      have hv : v28 = sg_hp (B 4 1) (sg_fo (sp_W B a b) f (sg_rf1 (sp_W B a b) p f) m) := by
        rw [h28]; unfold sg_hp sg_min; rw [← h24]
        split <;> split <;> omega
      refine ⟨by rw [h28]; unfold sg_min; split <;> omega, by omega, step _ _ ?_ ?_⟩
      · unfold sp_ah
        have et : ((if (m : Int) + 1 ≤ sg_rl1 (sp_W B a b) (B 4 0) p f then (m : Int) + 1 else sg_rl1 (sp_W B a b) (B 4 0) p f + 1) - sg_rf1 (sp_W B a b) p f).toNat = ((m : Int) - sg_rf1 (sp_W B a b) p f).toNat + 1 := by
          split <;> omega
        rw [et, sg_S]
        have e5 : sg_rf1 (sp_W B a b) p f + (((m : Int) - sg_rf1 (sp_W B a b) p f).toNat : Int) = m := by omega
        rw [e5]
      · unfold sg_st; rw [if_neg g, if_neg g2]; exact hv
/-- a tone told into the record at cell o -/
def sp_to (B : sg_M) (a b p f : Int) (t : sg_M) (o : Int) : Prop := t o 1 = f ∧ t o 2 = sg_rf1 (sp_W B a b) p f ∧ t o 3 = sg_rl1 (sp_W B a b) (B 4 0) p f ∧ t o 5 = sg_sh (sp_W B a b) (B 4 0) p f ∧
  t o 6 = sg_tw p (sg_rf1 (sp_W B a b) p f) (sg_rl1 (sp_W B a b) (B 4 0) p f) (sp_P B a b) ∧ t o 4 = sg_ri (sp_W B a b) (B 4 0) p f ∧ sp_rw t (o + 1) (sp_sg (sp_W B a b) (B 4 0) (B 4 1) p f (B 4 0).toNat)
theorem tX0_sound {La : sg_L} {B : sg_M} {a b k m o : Int} {Q : Int → sg_M → Prop} {s : sg_M} (hst : sg_St La) (hok : sp_ok B) (hs : sp_cbt B a b s) (ho : 36 < o) (ho2 : o < 1000) (hln : sg_ln La (o + 1 + 1) = 60)
    (h0 : ¬ (0 ≤ m ∧ m ≤ 5 ∧ 0 ≤ k ∧ k < (sp_P B a b).length ∧ sp_bk B a b (B 4 0).toNat = -1 ∧ sg_tn (sp_W B a b) (B 4 0) (sp_at (sp_P B a b) k) ((2 * m + 1) * B 4 1) ≠ 0) → Q 0 s)
    (h1 : ∀ f, (0 ≤ m ∧ m ≤ 5 ∧ 0 ≤ k ∧ k < (sp_P B a b).length ∧ sp_bk B a b (B 4 0).toNat = -1 ∧ f ≠ 0) → f = sg_tn (sp_W B a b) (B 4 0) (sp_at (sp_P B a b) k) ((2 * m + 1) * B 4 1) → ∀ t, (∀ c i, c < o ∨ o + 2 < c → t c i = s c i) → sp_to B a b (sp_at (sp_P B a b) k) f t o → Q 1 t) : fX0_sound La s k m o Q := by
  obtain ⟨m3, m4, m5, m6, mj, mr⟩ := hs
  have hlen := sp_P_len hok a b
  have hu0 := hok.2.2.1
  have hu1 := hok.2.2.2.1
  have hn60 := hok.2.1
  have hW : ∀ i, 0 ≤ i → i < B 4 0 → s 34 i = sp_W B a b i := fun i q1 q2 => (mj i q1 q2).2
  have hsH : ∀ i, 0 ≤ i → i < B 4 0 → s 33 i = sg_abs (sp_cu B a b i) := fun i q1 q2 => (mj i q1 q2).1
  have hWb : ∀ i, 0 ≤ i → i < B 4 0 → 0 ≤ sp_W B a b i ∧ sp_W B a b i ≤ 4000000 := fun i _ _ => sp_W_rg B a b i
  unfold fX0_sound
  rw [mr.1, m5]
  refine ⟨fun g => h0 (by omega), fun g1 => ⟨fun g => h0 (by omega), fun g2 => ⟨fun g => h0 (by omega), fun g3 => ⟨fun g => h0 (by omega), fun g4 => ⟨fun g5 => ?_, fun g => h0 (by omega)⟩⟩⟩⟩⟩
  refine tX4_at (l := sp_P B a b) (c := 60) (sp_ln hst 36 10060 rfl) (by omega) mr.1 (by omega) mr.2 ?_
  rw [m4]
  have hneed : 1 ≤ (2 * m + 1) * B 4 1 := by
    have h1 : 1 * 1 ≤ (2 * m + 1) * B 4 1 := Int.mul_le_mul (by omega) hu0 (by omega) (by omega)
    omega
  have hneed2 : (2 * m + 1) * B 4 1 ≤ 11 * 9999 := Int.mul_le_mul (by omega) hu1 (by omega) (by omega)
  have hpm := sp_at_mem (l := sp_P B a b) (i := k) (by omega) (by omega)
  have hp := sp_P_mem hok hpm
  refine ⟨by omega, ?_⟩
  refine tX0_leastTone (W := sp_W B a b) (n := B 4 0) hn60 m3 hW hWb (sp_H2 B a b) hsH hp.1 hp.2 hneed (by omega) (by omega) ?_
  have htr := sg_tn_rg (sp_W B a b) (B 4 0) (sp_at (sp_P B a b) k) ((2 * m + 1) * B 4 1)
  have htw : sg_tn (sp_W B a b) (B 4 0) (sp_at (sp_P B a b) k) ((2 * m + 1) * B 4 1) ≠ 0 → sp_W B a b (sp_at (sp_P B a b) k) < _ := sp_tn_wall hneed
  have h1 := h1 (sg_tn (sp_W B a b) (B 4 0) (sp_at (sp_P B a b) k) ((2 * m + 1) * B 4 1))
  generalize hp' : sp_at (sp_P B a b) k = p at *
  generalize hf' : sg_tn (sp_W B a b) (B 4 0) p ((2 * m + 1) * B 4 1) = f at *
  by_cases hf0 : f = 0
  · rw [if_neg (by omega)]
    exact ⟨fun hh => absurd rfl hh, fun _ => h0 (by omega)⟩
  rw [if_pos (by omega)]
  have h1 := h1 ⟨by omega, by omega, by omega, by omega, g5, hf0⟩ rfl
  refine ⟨fun _ => ?_, fun hh => absurd hh hf0⟩
  have hpf := htw hf0
  have hrr := sg_rn_rg (sp_W B a b) hp.1 hp.2 f
  intro s17 h17
  have r17 : ∀ c i, c < o ∨ o + 2 < c → s17 c i = s c i := fun c i q => by rw [h17, sg_upN _ (by omega)]
  refine tX0_firstOfRun (W := sp_W B a b) (n := B 4 0) htr.1 htr.2 hn60 (by rw [r17 32 3 (by omega)]; exact m3) (fun i q1 q2 => by rw [r17 34 i (by omega)]; exact hW i q1 q2) hp.1 hp.2 hpf ?_
  intro s21 h21
  have r21 : ∀ c i, c < o ∨ o + 2 < c → s21 c i = s c i := fun c i q => by rw [h21, sg_upN _ (by omega)]; exact r17 c i q
  refine tX0_lastOfRun (W := sp_W B a b) (n := B 4 0) htr.1 htr.2 hn60 (by rw [r21 32 3 (by omega)]; exact m3) (fun i q1 q2 => by rw [r21 34 i (by omega)]; exact hW i q1 q2) hp.1 hp.2 hpf ?_
  intro s25 h25
  have r25 : ∀ c i, c < o ∨ o + 2 < c → s25 c i = s c i := fun c i q => by rw [h25, sg_upN _ (by omega)]; exact r21 c i q
  have q1 : s25 o 1 = f := by rw [h25, sg_upN _ (by omega), h21, sg_upN _ (by omega), h17, sg_upS]
  have q2 : s25 o 2 = sg_rf1 (sp_W B a b) p f := by rw [h25, sg_upN _ (by omega), h21, sg_upS]
  have q3 : s25 o 3 = sg_rl1 (sp_W B a b) (B 4 0) p f := by rw [h25, sg_upS]
  have hsB : 0 ≤ sg_sh (sp_W B a b) (B 4 0) p f ∧ sg_sh (sp_W B a b) (B 4 0) p f ≤ 1 := by unfold sg_sh; split <;> (try split) <;> omega
  have key : fX0_sound_j128 La o f s25 Q (sg_sh (sp_W B a b) (B 4 0) p f) := by
    refine ⟨by omega, fun s29 h29 => ?_⟩
    have r29 : ∀ c i, c < o ∨ o + 2 < c → s29 c i = s c i := fun c i q => by rw [h29, sg_upN _ (by omega)]; exact r25 c i q
    have p2 : s29 o 2 = sg_rf1 (sp_W B a b) p f := by rw [h29, sg_upN _ (by omega)]; exact q2
    have p3 : s29 o 3 = sg_rl1 (sp_W B a b) (B 4 0) p f := by rw [h29, sg_upN _ (by omega)]; exact q3
    rw [p2, p3]
    refine tX0_isTwice (p := p) hst hlen (sp_rw_same mr (r29 35 1 (by omega)) (fun i => r29 36 i (by omega))) (sp_ps_nodup _ _ _) hpm hrr.2.1 hrr.2.2.1 ?_
    intro s35 h35
    have r35 : ∀ c i, c < o ∨ o + 2 < c → s35 c i = s c i := fun c i q => by rw [h35, sg_upN _ (by omega)]; exact r29 c i q
    have w5 : s35 o 5 = sg_sh (sp_W B a b) (B 4 0) p f := by rw [h35, sg_upN _ (by omega), h29, sg_upS]
    have w1 : s35 o 1 = f := by rw [h35, sg_upN _ (by omega), h29, sg_upN _ (by omega)]; exact q1
    have w2 : s35 o 2 = sg_rf1 (sp_W B a b) p f := by rw [h35, sg_upN _ (by omega)]; exact p2
    have w3 : s35 o 3 = sg_rl1 (sp_W B a b) (B 4 0) p f := by rw [h35, sg_upN _ (by omega)]; exact p3
    have w6 : s35 o 6 = sg_tw p (sg_rf1 (sp_W B a b) p f) (sg_rl1 (sp_W B a b) (B 4 0) p f) (sp_P B a b) := by rw [h35, sg_upS]
    have tell : ∀ s39, s39 = sg_up s35 o 4 (sg_ri (sp_W B a b) (B 4 0) p f) → fX0_tellStrengths La s39 o (fun s41 => Q 1 s41) := by
      intro s39 h39
      have r39 : ∀ c i, c < o ∨ o + 2 < c → s39 c i = s c i := fun c i q => by rw [h39, sg_upN _ (by omega)]; exact r35 c i q
      refine ⟨by rw [r39 32 4 (by omega), m4]; omega, tX4_clear ⟨(B 4 0).toNat + 1, ?_⟩⟩
      have hn3 := hok.1
      have x1 : s39 o 1 = f := by rw [h39, sg_upN _ (by omega)]; exact w1
      have x2 : s39 o 2 = sg_rf1 (sp_W B a b) p f := by rw [h39, sg_upN _ (by omega)]; exact w2
      have x3 : s39 o 3 = sg_rl1 (sp_W B a b) (B 4 0) p f := by rw [h39, sg_upN _ (by omega)]; exact w3
      have x5 : s39 o 5 = sg_sh (sp_W B a b) (B 4 0) p f := by rw [h39, sg_upN _ (by omega)]; exact w5
      have x6 : s39 o 6 = sg_tw p (sg_rf1 (sp_W B a b) p f) (sg_rl1 (sp_W B a b) (B 4 0) p f) (sp_P B a b) := by rw [h39, sg_upN _ (by omega)]; exact w6
      have x4 : s39 o 4 = sg_ri (sp_W B a b) (B 4 0) p f := by rw [h39, sg_upS]
      have eah0 : sp_ah (sp_W B a b) f (sg_rf1 (sp_W B a b) p f) (sg_rl1 (sp_W B a b) (B 4 0) p f) ((0 : Nat) : Int) = 0 := by
        unfold sp_ah
        rw [if_pos (by omega), show (((0 : Nat) : Int) - sg_rf1 (sp_W B a b) p f).toNat = 0 by omega]; rfl
      have := sp_tsL (La := La) (B := B) (o := o) (a := a) (b := b) (f := f) (p := p) (Q := fun s41 => Q 1 s41) (s0 := s39) (s := sg_up s39 (o + 1) 1 0) hok hln ho ho2 htr.1 htr.2 hp.1 hp.2 x1 (by rw [r39 32 4 (by omega)]; exact m4)
        (by rw [sg_upN _ (by omega), r39 32 3 (by omega)]; exact m3) (fun i y1 y2 => by rw [sg_upN _ (by omega), r39 34 i (by omega)]; exact hW i y1 y2) (by rw [sg_upN _ (by omega)]; exact x2) (by rw [sg_upN _ (by omega)]; exact x3)
        (fun t hF ht => h1 t (fun c i q => ?_) ⟨?_, ?_, ?_, ?_, ?_, ?_, ht⟩) (B 4 0).toNat 0 (sg_up s39 (o + 1) 1 0) (by omega) (fun _ _ _ _ => rfl) (sp_rw_nil _ _)
      · rw [eah0] at this; exact this
      · rw [hF c i (by omega) (by omega), sg_upN _ (by omega)]; exact r39 c i q
      · rw [hF o 1 (by omega) (by omega), sg_upN _ (by omega)]; exact x1
      · rw [hF o 2 (by omega) (by omega), sg_upN _ (by omega)]; exact x2
      · rw [hF o 3 (by omega) (by omega), sg_upN _ (by omega)]; exact x3
      · rw [hF o 5 (by omega) (by omega), sg_upN _ (by omega)]; exact x5
      · rw [hF o 6 (by omega) (by omega), sg_upN _ (by omega)]; exact x6
      · rw [hF o 4 (by omega) (by omega), sg_upN _ (by omega)]; exact x4
    rw [w5, w2, w3]
    refine ⟨fun g => fun s39 h39 => tell s39 ?_, fun g => ?_⟩
    · rw [h39]; unfold sg_ri; rw [if_pos g]
    · refine tX0_rings (W := sp_W B a b) (n := B 4 0) htr.1 htr.2 hn60 (by rw [r35 32 3 (by omega)]; exact m3) (fun i y1 y2 => by rw [r35 34 i (by omega)]; exact hW i y1 y2) hWb hrr.1 (by omega) (by omega) hrr.2.2.2 ?_
      intro s46 h46
      refine tell s46 ?_
      rw [h46]; unfold sg_ri; rw [if_neg g]
  rw [q2, q3, r25 32 3 (by omega), m3]
  unfold sg_sh at key
  refine ⟨fun g => ?_, fun g => ⟨by omega, fun g2 => ?_, fun g2 => ?_⟩⟩
  · rw [if_pos g] at key; exact key
  · rw [if_neg g, if_pos g2] at key; exact key
  · rw [if_neg g, if_neg g2] at key; exact key
end SGT1
