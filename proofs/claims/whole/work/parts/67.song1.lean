/-! LEVEL 2: song, the class plays. -/
noncomputable section SGKh
variable {La : sg_L} {s : sg_M} {z : sp_Z}
/-- the costs that are known: of the notes behind i all -/
def sp_kc (z : sp_Z) (N : List Int) (sl : Int) (t : sg_M) (i : Int) : Prop := ∀ (r : Nat) (k : Int), r < N.length → i < (N.length : Int) - 1 - r → 0 ≤ k → k < (nKa (zN z)).length → t 47 (((N.length : Int) - 1 - r) * 40 + k) = sp_co (zN z) N sl r k
theorem sp_pl19 {N : List Int} {sl : Int} {r : Nat} {K : sg_M → Prop} (hst : sg_St La) (h89 : 89 ≤ La.1) (hw : sp_wZ z) (H : sp_RC La s z) (hN : sp_rw s 48 N) (hN60 : N.length ≤ 60) (hNr : ∀ x, x ∈ N → 1 ≤ x ∧ x ≤ 2000) (hV : sp_rw s 58 (sp_vq (zN z))) (hr : r < N.length)
    (hK : ∀ t, (∀ c i, c ≠ 47 → t c i = s c i) → sp_kc z N sl t ((N.length : Int) - 1 - r - 1) → K t) :
    ∀ (n k : Nat) (t : sg_M), k + n = (nKa (zN z)).length → (∀ c i, c ≠ 47 → t c i = s c i) → sp_kc z N sl t ((N.length : Int) - 1 - r) → (∀ k' : Int, 0 ≤ k' → k' < k → t 47 (((N.length : Int) - 1 - r) * 40 + k') = sp_co (zN z) N sl r k') → fX6_play_L19 La 20 58 sl ((N.length : Int) - 1 - r) K (n + 1) t k
  | 0, k, t, hk, hF, hkc, hrow => by
    have H' := H
    rw [sp_RC_eq] at H'
    obtain ⟨-, -, ⟨-, -, -, ⟨-, -, hKn, -, -⟩, -⟩, -⟩ := H'
    rw [fX6_play_L19, hF 20 2 (by omega), hKn]
    refine ⟨fun _ => hK t hF (fun r' k' q1 q2 q3 q4 => ?_), fun hh => absurd (show ((nKa (zN z)).length : Int) ≤ k by omega) hh⟩
    by_cases hrr : r' = r
    · rw [hrr]; exact hrow k' q3 (by omega)
    · exact hkc r' k' q1 (by omega) q3 q4
  | n + 1, k, t, hk, hF, hkc, hrow => by
    have H' := H
    rw [sp_RC_eq] at H'
    obtain ⟨-, -, ⟨-, -, -, ⟨-, -, hKn, -, -⟩, -⟩, -⟩ := H'
    have hlen := hw.2.2.1.2.2.2.2.2.2.1
    have l1 := sp_vq_len hw
    have HR : sp_cK La t 20 (nKa (zN z)) (nKb (zN z)) := by
      have H' := H
      rw [sp_RC_eq] at H'
      exact sp_cK_same H'.2.2.1.2.2.2.1 (sp_X_refl La) (by omega) (by omega) (fun c i q1 q2 => hF c i (by omega))
    have hNt : sp_rw t 48 N := sp_kR hN (fun c i q1 q2 => hF c i (by omega))
    have hVt : sp_rw t 58 (sp_vq (zN z)) := sp_kR hV (fun c i q1 q2 => hF c i (by omega))
    have hnote := hNr _ (sp_at_mem (l := N) (i := (N.length : Int) - 1 - r) (by omega) (by omega))
    have hv := sp_vq_rg hw _ (sp_at_mem (l := sp_vq (zN z)) (i := k) (by omega) (by omega))
    have hco := sp_co_rg hw N sl r k (by omega) (by omega)
    rw [fX6_play_L19, hF 20 2 (by omega), hKn]
    refine ⟨fun hh => absurd hh (by omega), fun _ => ?_⟩
    refine tX4_at (c := 40) (sp_ln hst 59 10040 rfl) (by omega) hVt.1 (by omega) hVt.2 ?_
    refine tX4_at (c := 60) (sp_ln hst 49 10060 rfl) (by omega) hNt.1 (by omega) hNt.2 ?_
    refine tX11_isNear (by omega) (by omega) ?_
    -- the cost is set
    have set : ∀ y, y = sp_co (zN z) N sl r k → fX6_play_j72 ((N.length : Int) - 1 - r) t k (fX6_play_L19 La 20 58 sl ((N.length : Int) - 1 - r) K (n + 1)) y := by
      intro y hy
      refine ⟨by omega, fun g => absurd g (by omega), fun _ => ⟨by omega, fun g => absurd g (by omega), fun _ => ⟨by omega, fun s8 h8 => ⟨by omega, ?_⟩⟩⟩⟩
      have ih := sp_pl19 hst h89 hw H hN hN60 hNr hV hr hK n (k + 1) s8 (by omega) (fun c i q => by rw [h8, sg_upN _ (by omega)]; exact hF c i q) (fun r' k' q1 q2 q3 q4 => ?_) (fun k' q1 q2 => ?_)
      · rw [show ((k + 1 : Nat) : Int) = (k : Int) + 1 by omega] at ih; exact ih
      · rw [h8, sg_upN _ (by omega)]; exact hkc r' k' q1 q2 q3 q4
      · by_cases hkk : k' = k
        · rw [hkk, h8, sg_upS, hy]
        · rw [h8, sg_upN _ (by omega)]; exact hrow k' q1 (by omega)
    split
    · rename_i g
      refine ⟨fun hh => absurd hh (by omega), fun _ => ?_⟩
      unfold fX6_costFrom
      rw [hNt.1]
      refine ⟨by omega, fun g2 => ?_, fun g2 => ?_⟩
      · -- there is a note behind
        obtain ⟨r', rfl⟩ : ∃ r', r = r' + 1 := ⟨r - 1, by omega⟩
        have ei : (N.length : Int) - 1 - ((r' + 1 : Nat) : Int) + 1 = (N.length : Int) - 1 - r' := by omega
        have hc : ∀ j : Int, 0 ≤ j → j < (nKa (zN z)).length → t 47 (((N.length : Int) - 1 - ((r' + 1 : Nat) : Int) + 1) * 40 + j) = sp_co (zN z) N sl r' j ∧ -1 ≤ sp_co (zN z) N sl r' j ∧ sp_co (zN z) N sl r' j ≤ 2400000 := fun j q1 q2 => by
          have := sp_co_rg hw N sl r' j q1 q2
          exact ⟨by rw [ei]; exact hkc r' j (by omega) (by omega) q1 q2, by omega, by omega⟩
        refine tX6_cheapestNext hst hw HR (by omega) (Or.inr (by omega)) hc ?_
        have ew : sp_ch (sp_co (zN z) N sl r') (fun j => if (k : Int) = -1 then 0 else sp_wy (zN z) k j) (nKa (zN z)).length = sp_ch (sp_co (zN z) N sl r') (sp_wy (zN z) k) (nKa (zN z)).length := sp_ch_congr _ (fun i _ _ => ⟨rfl, by rw [if_neg (by omega)]⟩)
        rw [ew]
        have eco : sp_co (zN z) N sl (r' + 1) k = if (sp_ch (sp_co (zN z) N sl r') (sp_wy (zN z) k) (nKa (zN z)).length).1 = -1 then -1 else (sp_ch (sp_co (zN z) N sl r') (sp_wy (zN z) k) (nKa (zN z)).length).2 := by
          rw [sp_co, if_pos]
          rw [show (N.length : Int) - 1 - ((r' : Int) + 1) = (N.length : Int) - 1 - ((r' + 1 : Nat) : Int) by omega]; exact g
        have hsp := sp_ch_spec (sp_co (zN z) N sl r') (sp_wy (zN z) k) (nKa (zN z)).length
        generalize sp_ch (sp_co (zN z) N sl r') (sp_wy (zN z) k) (nKa (zN z)).length = v at *
        refine ⟨fun g3 => ?_, fun g3 => set _ (by rw [eco, if_pos g3])⟩
        rcases hsp with ⟨q, -⟩ | ⟨q1, q2, q3, q4, -⟩
        · exact absurd q g3
        · have hwy := sp_wy_rg hw (j := k) (k := v.1) (by omega) ⟨q1, q2⟩
          refine tX2_way hst hw HR (by omega) ⟨q1, q2⟩ ⟨by omega, tX6_costAt (by omega) (by omega) ?_⟩
          have hcv := hc v.1 q1 q2
          rw [hcv.1]
          refine ⟨by omega, set _ ?_⟩
          rw [eco, if_neg g3, q4]; omega
      · have e0 : r = 0 := by omega
        refine set 0 ?_
        rw [e0, sp_co, if_pos]
        rw [show (N.length : Int) - 1 = (N.length : Int) - 1 - ((r : Nat) : Int) by omega]; exact g
    · rename_i g
      refine ⟨fun _ => set (-1) ?_, fun hh => absurd rfl hh⟩
      match r, g with
      | 0, g =>
        rw [sp_co, if_neg]
        rw [show (N.length : Int) - 1 = (N.length : Int) - 1 - ((0 : Nat) : Int) by omega]; exact g
      | r' + 1, g =>
        rw [sp_co, if_neg]
        rw [show (N.length : Int) - 1 - ((r' : Int) + 1) = (N.length : Int) - 1 - ((r' + 1 : Nat) : Int) by omega]; exact g
theorem sp_pl11 {N : List Int} {sl : Int} {K : sg_M → Prop} (hst : sg_St La) (h89 : 89 ≤ La.1) (hw : sp_wZ z) (H : sp_RC La s z) (hN : sp_rw s 48 N) (hN60 : N.length ≤ 60) (hNr : ∀ x, x ∈ N → 1 ≤ x ∧ x ≤ 2000) (hV : sp_rw s 58 (sp_vq (zN z)))
    (hK : ∀ t, (∀ c i, c ≠ 47 → t c i = s c i) → sp_kc z N sl t (-1) → K t) : ∀ (n r : Nat) (t : sg_M), r + n = N.length → (∀ c i, c ≠ 47 → t c i = s c i) → sp_kc z N sl t ((N.length : Int) - 1 - r) → fX6_play_L11 La 20 58 sl K (n + 1) t ((N.length : Int) - 1 - r)
  | 0, r, t, hr, hF, hkc => by
    rw [fX6_play_L11]
    have e : (N.length : Int) - 1 - r = -1 := by omega
    rw [e] at hkc ⊢
    exact ⟨fun _ => hK t hF hkc, fun hh => absurd (show (-1 : Int) < 0 by omega) hh⟩
  | n + 1, r, t, hr, hF, hkc => by
    rw [fX6_play_L11]
    have HR : sp_RC La t z := sp_RC_same H (sp_X_refl La) h89 (fun c i hr => hF c i (by unfold sp_rdc at hr; omega))
    refine ⟨fun hh => absurd hh (by omega), fun _ => ⟨(nKa (zN z)).length + 1, ?_⟩⟩
    refine sp_pl19 (s := t) hst h89 hw HR (sp_kR hN (fun c i q1 q2 => hF c i (by omega))) hN60 hNr (sp_kR hV (fun c i q1 q2 => hF c i (by omega))) (r := r) (by omega) (fun u hFu hkcu => ⟨by omega, ?_⟩) (nKa (zN z)).length 0 t (by omega) (fun _ _ _ => rfl) hkc (fun k' q1 q2 => by omega)
    have ih := sp_pl11 hst h89 hw H hN hN60 hNr hV hK n (r + 1) u (by omega) (fun c i q => by rw [hFu c i q]; exact hF c i q) (by rw [show (N.length : Int) - 1 - ((r + 1 : Nat) : Int) = (N.length : Int) - 1 - r - 1 by omega]; exact hkcu)
    rw [show (N.length : Int) - 1 - ((r + 1 : Nat) : Int) = (N.length : Int) - 1 - r - 1 by omega] at ih; exact ih
theorem sp_pl123 {N : List Int} {sl : Int} {Q : Int → sg_M → Prop} (hst : sg_St La) (h89 : 89 ≤ La.1) (hw : sp_wZ z) (H : sp_cK La s 20 (nKa (zN z)) (nKb (zN z))) (hN : sp_rw s 48 N) (hN0 : 1 ≤ N.length) (hN60 : N.length ≤ 60) (h0 : sp_st0 (zN z) N sl ≠ -1) (hkc : sp_kc z N sl s (-1))
    (hQ : ∀ t, (∀ c i, c < 50 ∨ 51 < c → t c i = s c i) → sp_rw t 50 (sp_us (zN z) N sl N.length) → Q (sp_co (zN z) N sl (N.length - 1) (sp_st0 (zN z) N sl)) t) :
    ∀ (n i : Nat) (t : sg_M), i + n + 1 = N.length → (∀ c i, c < 50 ∨ 51 < c → t c i = s c i) → sp_rw t 50 (sp_us (zN z) N sl (i + 1)) → fX6_play_L123 La 20 (sp_st0 (zN z) N sl) Q (n + 1) t i
  | 0, i, t, hi, hF, hu => by
    have hNt : t 48 1 = N.length := by rw [hF 48 1 (by omega)]; exact hN.1
    have hs0 := sp_ub_ok hw N sl h0 0 (by omega)
    rw [sp_ub] at hs0
    have hlen := hw.2.2.1.2.2.2.2.2.2.1
    rw [fX6_play_L123, hNt]
    refine ⟨by omega, fun _ => tX6_costAt (by omega) (by omega) ?_, fun hh => absurd (show (N.length : Int) - 1 ≤ i by omega) hh⟩
    have := hkc (N.length - 1) (sp_st0 (zN z) N sl) (by omega) (by omega) hs0.1 hs0.2.1
    rw [show ((N.length : Int) - 1 - ((N.length - 1 : Nat) : Int)) = 0 by omega] at this
    rw [hF 47 _ (by omega), this]
    refine hQ t hF ?_
    rw [show N.length = i + 1 by omega]; exact hu
  | n + 1, i, t, hi, hF, hu => by
    have hNt : t 48 1 = N.length := by rw [hF 48 1 (by omega)]; exact hN.1
    have hs0 := sp_ub_ok hw N sl h0 i (by omega)
    have hlen := hw.2.2.1.2.2.2.2.2.2.1
    have hl := (sp_us_at (zN z) N sl (i + 1) 0).1
    have hu1 := hu.1
    rw [hl] at hu1
    rw [fX6_play_L123, hNt]
    refine ⟨by omega, fun hh => absurd hh (by omega), fun _ => ?_⟩
    refine tX4_at (l := sp_us (zN z) N sl (i + 1)) (c := 60) (sp_ln hst 51 10060 rfl) (by omega) hu.1 (by rw [hl]; omega) hu.2 ?_
    rw [(sp_us_at (zN z) N sl (i + 1) i).2 (by omega) (by omega), Int.toNat_natCast]
    refine tX6_cheapestNext (c := sp_co (zN z) N sl (N.length - 2 - i)) hst hw (sp_cK_same H (sp_X_refl La) (by omega) (by omega) (fun c i q1 q2 => hF c i (by omega))) (by omega) (Or.inr ⟨hs0.1, hs0.2.1⟩) (fun j q1 q2 => ?_) ?_
    · have := hkc (N.length - 2 - i) j (by omega) (by omega) q1 q2
      have hr := sp_co_rg hw N sl (N.length - 2 - i) j q1 q2
      rw [show ((N.length : Int) - 1 - ((N.length - 2 - i : Nat) : Int)) = (i : Int) + 1 by omega] at this
      rw [hF 47 _ (by omega)]
      exact ⟨this, by omega, by omega⟩
    · have ew : sp_ch (sp_co (zN z) N sl (N.length - 2 - i)) (fun j => if sp_ub (zN z) N sl i = -1 then 0 else sp_wy (zN z) (sp_ub (zN z) N sl i) j) (nKa (zN z)).length = sp_ch (sp_co (zN z) N sl (N.length - 2 - i)) (sp_wy (zN z) (sp_ub (zN z) N sl i)) (nKa (zN z)).length := sp_ch_congr _ (fun i' _ _ => ⟨rfl, by rw [if_neg (by omega)]⟩)
      rw [ew]
      change fX4_add La t 50 (sp_ub (zN z) N sl (i + 1)) _
      refine tX4_add (c := 60) (sp_ln hst 51 10060 rfl) (by omega) (by omega) (by omega) ⟨by omega, ?_⟩
      have ih := sp_pl123 hst h89 hw H hN hN0 hN60 h0 hkc hQ n (i + 1) (sg_up (sg_up t (50 + 1) (t 50 1) (sp_ub (zN z) N sl (i + 1))) 50 1 (t 50 1 + 1)) (by omega) (fun c i q => ?_) ?_
      · rw [show ((i + 1 : Nat) : Int) = (i : Int) + 1 by omega] at ih; exact ih
      · rw [sg_upN _ (by omega), sg_upN _ (by omega)]; exact hF c i q
      · rw [sp_us]; exact sp_rw_snoc hu
theorem sp_RC_U {s' : sg_M} {U : List Int} (H : sp_RC La s z) (h89 : 89 ≤ La.1) (e : ∀ c i, c < 46 ∨ 51 < c → s' c i = s c i) (hU : sp_rw s' 50 U) : sp_RC La s' (zU' z U) := by
  rw [sp_RC_eq] at H ⊢
  obtain ⟨hT, hF, hN, hI, hL, hG, hW, hR, hD, hE, -, hQ, hK⟩ := H
  exact ⟨sp_kT hT (fun c i q => e c i (by omega)), by rw [e 0 16 (by omega)]; exact hF, sp_kN hN (sp_X_refl La) h89 (fun c i q => e c i (by omega)), sp_kI hI (sp_X_refl La) h89 (fun c i q => e c i (by omega)), sp_kL hL (fun i => e 37 i (by omega)),
    sp_kR hG (fun c i _ _ => e c i (by omega)), by rw [e 0 17 (by omega)]; exact hW, by rw [e 0 18 (by omega)]; exact hR, sp_kR hD (fun c i _ _ => e c i (by omega)), sp_kR hE (fun c i _ _ => e c i (by omega)), hU, sp_kQ hQ (fun c i _ _ => e c i (by omega)), sp_kK hK (fun c i _ _ => e c i (by omega))⟩
theorem sp_rnL {Q : Int → sg_M → Prop} (hst : sg_St La) (hw : sp_wZ z) (hT : s 1 1 = (zT z).length ∧ sg_ar (s 2) 0 (zT z)) (hl : (zT z).length ≤ 120) (h2 : (zT z).length % 2 = 0)
    (hQ1 : ∀ t, (∀ c i, c < 48 ∨ 49 < c → t c i = s c i) → sp_rw t 48 (sp_no z) → sp_nv (zT z) ((zT z).length / 2) 0 = 1 → Q 1 t) (hQ0 : ∀ t, (∀ c i, c < 48 ∨ 49 < c → t c i = s c i) → sp_nv (zT z) ((zT z).length / 2) 0 ≠ 1 → Q 0 t) :
    ∀ (r : Nat) (i : Int) (P : List Int) (t : sg_M), 0 ≤ i → i + 2 * r = (zT z).length → (P.length : Int) + r ≤ 60 → (∀ c i, c < 48 ∨ 49 < c → t c i = s c i) → sp_rw t 48 P → P ++ sp_nl (zT z) r i = sp_no z → sp_nv (zT z) r i = sp_nv (zT z) ((zT z).length / 2) 0 → fX6_readNotes_L37 La Q (r + 1) t i
  | 0, i, P, t, h0, hi, hP, hF, hr, he, hv => by
    have hTt : t 1 1 = (zT z).length := by rw [hF 1 1 (by omega)]; exact hT.1
    rw [fX6_readNotes_L37, hTt]
    rw [sp_nl, List.append_nil] at he
    rw [he] at hr
    rw [sp_nv] at hv
    exact ⟨fun _ => hQ1 t hF hr hv.symm, fun hh => absurd (show ((zT z).length : Int) ≤ i by omega) hh⟩
  | r + 1, i, P, t, h0, hi, hP, hF, hr, he, hv => by
    have hTt : t 1 1 = (zT z).length ∧ sg_ar (t 2) 0 (zT z) := sp_kT hT (fun c i q => hF c i (by omega))
    have hb := hw.2.1
    have hr1 := hr.1
    rw [fX6_readNotes_L37, hTt.1]
    rw [sp_nl] at he
    rw [sp_nv] at hv
    refine ⟨fun hh => absurd hh (by omega), fun _ => tX8_pairAt hTt (by omega) hb (by omega) (tX11_isTone ?_)⟩
    split
    · rename_i g
      rw [if_pos g] at hv
      refine ⟨fun _ => tX8_pairAt hTt (by omega) hb (by omega) (tX4_add (c := 60) (sp_ln hst 49 10060 rfl) (by omega) (by omega) (by omega) ⟨by omega, ?_⟩), fun hh => absurd hh (by omega)⟩
      refine sp_rnL hst hw hT hl h2 hQ1 hQ0 r (i + 2) (P ++ [sp_pr (zT z) i]) _ (by omega) (by omega) (by simp only [List.length_append, List.length_cons, List.length_nil]; omega) (fun c i q => ?_) (sp_rw_snoc hr) (by rw [List.append_assoc]; exact he) hv
      rw [sg_upN _ (by omega), sg_upN _ (by omega)]; exact hF c i q
    · rename_i g
      rw [if_neg g] at hv
      exact ⟨fun hh => absurd rfl hh, fun _ => hQ0 t hF (by omega)⟩
theorem k1Song {sl : Int} {Q : Int → sg_M → Prop} (hst : sg_St La) (h89 : 89 ≤ La.1) (hw : sp_wZ z) (H : sp_RC La s z) (h : ∀ s', sp_FM s s' → sp_RC La s' (ySong z sl) → Q (aSong z sl) s') : fX11_song La s sl Q := by
  have H' := H
  rw [sp_RC_eq] at H'
  obtain ⟨hT, -⟩ := H'
  -- the tape is emptied
  have emp : ∀ t, (∀ c i, c < 48 ∨ 49 < c → t c i = s c i) → sp_RC La (sg_up t 1 1 0) (zT' z []) ∧ sp_FM s (sg_up t 1 1 0) := fun t hF => by
    have HR : sp_RC La t z := sp_RC_same H (sp_X_refl La) h89 (fun c i hr => hF c i (by unfold sp_rdc at hr; omega))
    exact ⟨sp_RC_T HR h89 (fun c i q1 _ => sg_upN _ (by omega)) ⟨by rw [sg_upS]; rfl, trivial⟩, fun c i q1 q2 => by rw [sg_upN _ (by omega)]; exact hF c i (by omega)⟩
  have no : ¬ sp_sc z sl → ∀ t, (∀ c i, c < 48 ∨ 49 < c → t c i = s c i) → fX11_song_j26 La sl t Q 0 := fun g t hF => by
    intro s7 h7
    have k := emp t hF
    rw [← h7] at k
    unfold aSong ySong at h; rw [if_neg g, if_neg (fun hh => g hh.1)] at h
    exact ⟨fun hh => absurd rfl hh, fun _ => h s7 k.2 k.1⟩
  refine tX4_clear ?_
  have e1 : ∀ c i, c < 48 ∨ 49 < c → sg_up s 48 1 0 c i = s c i := fun c i q => sg_upN _ (by omega)
  rw [e1 1 1 (by omega), hT.1]
  have tm2 : Int.tmod ((zT z).length : Int) 2 = (((zT z).length % 2 : Nat) : Int) := by rw [Int.tmod_eq_emod_of_nonneg (by omega)]; omega
  rw [tm2]
  have no0 : ¬ sp_sc z sl → ∀ t, (∀ c i, c < 48 ∨ 49 < c → t c i = s c i) → ((0 : Int) = 0 → fX11_song_j25 (fX11_song_j26 La sl t Q)) ∧ (¬ (0 : Int) = 0 → fX11_isSlip sl (fun u19 => (u19 = 0 → fX11_song_j25 (fX11_song_j26 La sl t Q)) ∧ (¬ u19 = 0 → fX11_song_j26 La sl t Q 1))) := fun g t hF => ⟨fun _ => no g t hF, fun hh => absurd rfl hh⟩
  refine ⟨fun g => no0 (by omega) _ e1, fun g => ⟨fun g2 => no0 (by omega) _ e1, fun g2 => ⟨by omega, fun g3 => ⟨(zT z).length / 2 + 1, ?_⟩, fun g3 => no0 (by omega) _ e1⟩⟩⟩
  refine sp_rnL (s := s) hst hw hT (by omega) (by omega) (fun t hF hrN hnv => ⟨fun hh => absurd hh (by omega), fun _ => tX11_isSlip ?_⟩) (fun t hF hnv => no0 (fun hh => hnv hh.2.2.2.2.2) t hF) ((zT z).length / 2) 0 [] _ (by omega) (by omega) (by simp only [List.length_nil]; omega) e1 (sp_rw_nil _ _) rfl rfl
  split
  · rename_i gs
    have hc : sp_sc z sl := ⟨gs.1, gs.2, by omega, by omega, by omega, hnv⟩
    refine ⟨fun hh => absurd hh (by omega), fun _ => fun s7 h7 => ⟨fun _ => ?_, fun hh => absurd hh (by omega)⟩⟩
    have k := emp t hF
    rw [← h7] at k
    have hw' : sp_wZ (zT' z []) := by
      obtain ⟨a1, a2, a3⟩ := hw
      exact ⟨by show ([] : List Int).length ≤ 540; simp, fun x hx => (by cases hx), a3⟩
    refine sp_hb hst h89 hw' k.1 (fun u hFu HRu rV rU => ?_)
    have hlenN : (sp_no z).length = (zT z).length / 2 := sp_nl_len _ _ _
    have hNr := sp_nl_rg _ _ hnv
    have hrNu : sp_rw u 48 (sp_no z) := sp_kR hrN (fun c i q1 q2 => by rw [hFu c i (by omega), h7, sg_upN _ (by omega)])
    unfold aSong ySong at h
    rw [if_pos hc] at h
    have hFMu : sp_FM s u := fun c i q1 q2 => by rw [hFu c i (by omega)]; exact k.2 c i q1 q2
    unfold fX6_play
    rw [hrNu.1]
    refine ⟨by omega, (sp_no z).length + 1, ?_⟩
    have key := sp_pl11 (La := La) (s := u) (z := zT' z []) (N := sp_no z) (sl := sl) (K := fun s_87e11 => fX6_cheapestNext La s_87e11 20 (-1) (-1) (fun u22 => ((u22 ≠ (-1) → fX4_clear s_87e11 50 (fun s26 => fX4_add La s26 50 u22 (fun s28 => (∃ n43 : Nat, fX6_play_L123 La 20 u22 Q n43 s28 0)))) ∧ (u22 = (-1) → Q (-1) s_87e11)))) hst h89 hw' HRu hrNu (by omega) hNr rV (fun v hFv hkc => ?_) (sp_no z).length 0 u (by omega) (fun _ _ _ => rfl) (fun r k q1 q2 q3 q4 => by omega)
    · rw [show ((sp_no z).length : Int) - 1 - ((0 : Nat) : Int) = ((sp_no z).length : Int) - 1 by omega] at key; exact key
    · have HRv : sp_RC La v (zT' z []) := sp_RC_same HRu (sp_X_refl La) h89 (fun c i hr => hFv c i (by unfold sp_rdc at hr; omega))
      have hrNv : sp_rw v 48 (sp_no z) := sp_kR hrNu (fun c i q1 q2 => hFv c i (by omega))
      have hlen := hw.2.2.1.2.2.2.2.2.2.1
      have hKv : sp_cK La v 20 (nKa (zN z)) (nKb (zN z)) := by
        have HRv' := HRv
        rw [sp_RC_eq] at HRv'
        exact HRv'.2.2.1.2.2.2.1
      refine tX6_cheapestNext (z := zT' z []) (c := sp_co (zN z) (sp_no z) sl ((sp_no z).length - 1)) hst hw' hKv (by omega) (Or.inl rfl) (fun j q1 q2 => ?_) ?_
      · have := hkc ((sp_no z).length - 1) j (by omega) (by omega) q1 q2
        have hr := sp_co_rg hw (sp_no z) sl ((sp_no z).length - 1) j q1 q2
        rw [show (((sp_no z).length : Int) - 1 - (((sp_no z).length - 1 : Nat) : Int)) = -1 + 1 by omega] at this
        exact ⟨this, by omega, by omega⟩
      · have ew : (sp_ch (sp_co (zN z) (sp_no z) sl ((sp_no z).length - 1)) (fun j => if (-1 : Int) = -1 then 0 else sp_wy (zN (zT' z [])) (-1) j) (nKa (zN (zT' z []))).length).1 = sp_st0 (zN z) (sp_no z) sl := by
          unfold sp_st0
          exact congrArg Prod.fst (sp_ch_congr _ (fun i _ _ => ⟨rfl, by rw [if_pos rfl]⟩))
        rw [ew]
        refine ⟨fun g5 => ?_, fun g5 => ?_⟩
        · rw [if_neg g5, if_pos ⟨hc, g5⟩] at h
          refine tX4_clear ?_
          refine tX4_add (c := 60) (sp_ln hst 51 10060 rfl) (by omega) (by rw [sg_upS]; omega) (by rw [sg_upS]; omega) ⟨(sp_no z).length, ?_⟩
          have ru : sp_rw (sg_up (sg_up (sg_up v 50 1 0) (50 + 1) (sg_up v 50 1 0 50 1) (sp_st0 (zN z) (sp_no z) sl)) 50 1 (sg_up v 50 1 0 50 1 + 1)) 50 ([] ++ [sp_st0 (zN z) (sp_no z) sl]) := sp_rw_snoc (sp_rw_nil v 50)
          have fw : ∀ c i, c < 50 ∨ 51 < c → sg_up (sg_up (sg_up v 50 1 0) (50 + 1) (sg_up v 50 1 0 50 1) (sp_st0 (zN z) (sp_no z) sl)) 50 1 (sg_up v 50 1 0 50 1 + 1) c i = v c i := fun c i q => by rw [sg_upN _ (by omega), sg_upN _ (by omega), sg_upN _ (by omega)]
          generalize sg_up (sg_up (sg_up v 50 1 0) (50 + 1) (sg_up v 50 1 0 50 1) (sp_st0 (zN z) (sp_no z) sl)) 50 1 (sg_up v 50 1 0 50 1 + 1) = w at *
          have hkw : sp_kc z (sp_no z) sl w (-1) := fun r k q1 q2 q3 q4 => by rw [fw 47 _ (by omega)]; exact hkc r k q1 q2 q3 q4
          have fin := sp_pl123 (La := La) (s := w) (z := z) (N := sp_no z) (sl := sl) (Q := Q) hst h89 hw (sp_cK_same hKv (sp_X_refl La) (by omega) (by omega) (fun c i q1 q2 => fw c i (by omega))) (sp_kR hrNv (fun c i q1 q2 => fw c i (by omega))) (by omega) (by omega) g5 hkw
            (fun t' hFt hrt => ?_) ((sp_no z).length - 1) 0 w (by omega) (fun _ _ _ => rfl) (by rw [sp_us, sp_us, sp_ub]; exact ru)
          · rw [show (sp_no z).length - 1 + 1 = (sp_no z).length by omega] at fin; exact fin
          · refine h t' (fun c i q1 q2 => ?_) (sp_RC_U HRv h89 (fun c i q => by rw [hFt c i (by omega), fw c i (by omega)]) hrt)
            rw [hFt c i (by omega), fw c i (by omega), hFv c i (by omega)]; exact hFMu c i q1 q2
        · rw [if_pos g5, if_neg (fun hh => hh.2 g5)] at h
          exact h v (fun c i q1 q2 => by rw [hFv c i (by omega)]; exact hFMu c i q1 q2) HRv
  · rename_i gs
    exact ⟨fun _ => no (by omega) t hF, fun hh => absurd rfl hh⟩
end SGKh
