/-! LEVEL 2: song, the reference's side. -/
noncomputable section SGKi
variable {La : sg_L} {s : sg_M} {z : sp_Z}
def sp_nc (c : Int) : Int := if c = -1 then 100000000 else c
theorem tX12_way {j k : Int} {Q : Int → Prop} (hw : sp_wZ z) (HR : sp_R0 s z) (hj : 0 ≤ j ∧ j < (nKa (zN z)).length) (hk : 0 ≤ k ∧ k < (nKa (zN z)).length) (h : Q (sp_wy (zN z) j k)) : fX12_way s j k Q := by
  have hl := hw.2.2.1.2.2.2.2.2.1
  have a1 := sp_bd_at hw.2.2.1.2.2.2.2.2.2.2.1 hj.1 hj.2
  have a2 := sp_bd_at hw.2.2.1.2.2.2.2.2.2.2.1 hk.1 hk.2
  have b1 := sp_bd_at hw.2.2.1.2.2.2.2.2.2.2.2.1 hj.1 (by omega)
  have b2 := sp_bd_at hw.2.2.1.2.2.2.2.2.2.2.2.1 hk.1 (by omega)
  have hr := sp_wy_rg hw hj hk
  refine tX12_aOf hw HR hj.1 hj.2 (tX12_aOf hw HR hk.1 hk.2 ⟨by omega, tX12_size (by omega) ?_⟩)
  refine tX12_bOf hw HR hj.1 hj.2 (tX12_bOf hw HR hk.1 hk.2 ⟨by omega, tX12_size (by omega) ⟨?_, h⟩⟩)
  change sg_R (sp_wy (zN z) j k); omega
/-- what is known of the notes behind i -/
def sp_km (M : sp_N) (N : List Int) (sl : Int) (t : sg_M) (i : Int) : Prop := ∀ (r : Nat) (k : Int), r < N.length → i < (N.length : Int) - 1 - r → 0 ≤ k → k < (nKa M).length → t 82 (40 * ((N.length : Int) - 1 - r) + k) = sp_nc (sp_co M N sl r k)
theorem sp_m154 {u4 i k : Int} {c : Int → Int} {K : Int → Prop} {n : Int} (hw : sp_wZ z) (HR : sp_R0 s z) (hu : Int.tdiv u4 2 = n) (hn : n ≤ 60) (hi : 0 ≤ i ∧ i < n - 1) (hk : 0 ≤ k ∧ k < (nKa (zN z)).length) (hc : ∀ j : Int, 0 ≤ j → j < (nKa (zN z)).length → s 82 (40 * (i + 1) + j) = sp_nc (c j) ∧ -1 ≤ c j ∧ c j ≤ 2400000)
    (h : K (if (sp_ch c (sp_wy (zN z) k) (nKa (zN z)).length).1 = -1 then 100000000 else (sp_ch c (sp_wy (zN z) k) (nKa (zN z)).length).2)) : ∀ (r j : Nat), j + r = (nKa (zN z)).length → fX12_song_L154 u4 i s k K (r + 1) (if (sp_ch c (sp_wy (zN z) k) j).1 = -1 then 100000000 else (sp_ch c (sp_wy (zN z) k) j).2) j
  | 0, j, hj => by
    rw [fX12_song_L154]
    unfold fX12_bends
    rw [HR.2.2.1.2.2.2.1.1]
    have e : j = (nKa (zN z)).length := by omega
    rw [e]
    exact ⟨fun _ => h, fun hh => absurd (Int.le_refl _) hh⟩
  | r + 1, j, hj => by
    have hlen := hw.2.2.1.2.2.2.2.2.2.1
    have hcj := hc j (by omega) (by omega)
    have hwy := sp_wy_rg hw hk (k := j) (by omega)
    have ih := sp_m154 hw HR hu hn hi hk hc h r (j + 1) (by omega)
    rw [show ((j + 1 : Nat) : Int) = (j : Int) + 1 by omega] at ih
    have hsp := sp_ch_spec c (sp_wy (zN z) k) j
    rw [fX12_song_L154]
    unfold fX12_bends
    rw [HR.2.2.1.2.2.2.1.1, hu, hcj.1]
    simp only [fX12_song_j243]
    refine ⟨fun hh => absurd hh (by omega), fun _ => ⟨by omega, fun hh => absurd hh (by omega), fun _ => ⟨by omega, fun g => ⟨by omega, ?_⟩, fun g => ?_⟩⟩⟩
    · have e1 : c j = -1 := by unfold sp_nc at g; split at g <;> omega
      rw [sp_ch, if_pos e1] at ih; exact ih
    · have e1 : c j ≠ -1 := fun q => g (by unfold sp_nc; rw [if_pos q]; omega)
      have enc : sp_nc (c j) = c j := by unfold sp_nc; rw [if_neg e1]
      rw [sp_ch, if_neg e1] at ih
      rw [enc]
      refine tX12_way hw HR hk (by omega) ⟨by omega, by omega, ?_⟩
      rcases hsp with ⟨q, -⟩ | ⟨q1, q2, q3, q4, -⟩
      · rw [if_pos q] at ih ⊢
        refine ⟨fun hh => absurd hh (by omega), fun _ => tX12_way hw HR hk (by omega) ⟨by omega, fun v66 h66 => ⟨by omega, by omega, ?_⟩⟩⟩
        rw [if_neg (show ¬ (j : Int) = -1 by omega)] at ih
        rw [h66, show sp_wy (zN z) k j + c j = c j + sp_wy (zN z) k j by omega]; exact ih
      · have hne1 : ¬ (sp_ch c (sp_wy (zN z) k) j).1 = -1 := by omega
        rw [if_neg hne1] at ih ⊢
        refine ⟨fun g2 => ⟨by omega, ?_⟩, fun g2 => tX12_way hw HR hk (by omega) ⟨by omega, fun v66 h66 => ⟨by omega, by omega, ?_⟩⟩⟩
        · rw [if_pos (show (sp_ch c (sp_wy (zN z) k) j).2 ≤ c j + sp_wy (zN z) k j by omega), if_neg hne1] at ih; exact ih
        · rw [if_neg (show ¬ (sp_ch c (sp_wy (zN z) k) j).2 ≤ c j + sp_wy (zN z) k j by omega), if_neg (show ¬ (j : Int) = -1 by omega)] at ih
          rw [h66, show sp_wy (zN z) k j + c j = c j + sp_wy (zN z) k j by omega]; exact ih
theorem sp_m126 {N : List Int} {sl u4 : Int} {r : Nat} {K : sg_M → Prop} (hw : sp_wZ z) (HR : sp_R0 s z) (hu : Int.tdiv u4 2 = N.length) (hN60 : N.length ≤ 60) (hNr : ∀ x, x ∈ N → 1 ≤ x ∧ x ≤ 2000) (hN : sg_ar (s 81) 0 N) (hV : sg_ar (s 80) 0 (sp_vq (zN z))) (hr : r < N.length)
    (hK : ∀ t, (∀ c i, c ≠ 82 → t c i = s c i) → sp_km (zN z) N sl t ((N.length : Int) - 1 - r - 1) → K t) :
    ∀ (n k : Nat) (t : sg_M), k + n = (nKa (zN z)).length → (∀ c i, c ≠ 82 → t c i = s c i) → sp_km (zN z) N sl t ((N.length : Int) - 1 - r) → (∀ k' : Int, 0 ≤ k' → k' < k → t 82 (40 * ((N.length : Int) - 1 - r) + k') = sp_nc (sp_co (zN z) N sl r k')) → fX12_song_L126 sl u4 ((N.length : Int) - 1 - r) K (n + 1) t k
  | 0, k, t, hk, hF, hkc, hrow => by
    rw [fX12_song_L126]
    unfold fX12_bends
    rw [hF 66 1701 (by omega), HR.2.2.1.2.2.2.1.1]
    refine ⟨fun _ => hK t hF (fun r' k' q1 q2 q3 q4 => ?_), fun hh => absurd (show ((nKa (zN z)).length : Int) ≤ k by omega) hh⟩
    by_cases hrr : r' = r
    · rw [hrr]; exact hrow k' q3 (by omega)
    · exact hkc r' k' q1 (by omega) q3 q4
  | n + 1, k, t, hk, hF, hkc, hrow => by
    have hlen := hw.2.2.1.2.2.2.2.2.2.1
    have l1 := sp_vq_len hw
    have HRt : sp_R0 t z := sp_R0_same HR (fun c i hr => hF c i (by unfold sp_rdm at hr; omega))
    have hnote := hNr _ (sp_at_mem (l := N) (i := (N.length : Int) - 1 - r) (by omega) (by omega))
    have hv := sp_vq_rg hw _ (sp_at_mem (l := sp_vq (zN z)) (i := k) (by omega) (by omega))
    have e81 : t 81 ((N.length : Int) - 1 - r) = sp_at N ((N.length : Int) - 1 - r) := by rw [hF 81 _ (by omega)]; exact sp_at_in hN (by omega) (by omega)
    have e80 : t 80 k = sp_at (sp_vq (zN z)) k := by rw [hF 80 _ (by omega)]; exact sp_at_in hV (by omega) (by omega)
    have set : ∀ y, y = sp_nc (sp_co (zN z) N sl r k) → fX12_song_j289 ((N.length : Int) - 1 - r) t k (fX12_song_L126 sl u4 ((N.length : Int) - 1 - r) K (n + 1)) y := by
      intro y hy
      refine ⟨by omega, fun s8 h8 => ⟨by omega, ?_⟩⟩
      have ih := sp_m126 hw HR hu hN60 hNr hN hV hr hK n (k + 1) s8 (by omega) (fun c i q => by rw [h8, sg_upN _ (by omega)]; exact hF c i q) (fun r' k' q1 q2 q3 q4 => ?_) (fun k' q1 q2 => ?_)
      · rw [show ((k + 1 : Nat) : Int) = (k : Int) + 1 by omega] at ih; exact ih
      · rw [h8, sg_upN _ (by omega)]; exact hkc r' k' q1 q2 q3 q4
      · by_cases hkk : k' = k
        · rw [hkk, h8, sg_upS, hy]
        · rw [h8, sg_upN _ (by omega)]; exact hrow k' q1 (by omega)
    have near : ∀ x5, (sp_nr (sp_at (sp_vq (zN z)) k) (sp_at N ((N.length : Int) - 1 - r)) sl → x5 = sp_nc (sp_co (zN z) N sl r k)) → (0 ≤ (k : Int) ∧ (k : Int) < 40) ∧ (0 ≤ ((N.length : Int) - 1 - r) ∧ ((N.length : Int) - 1 - r) < 60) ∧ fX12_isNear (t 80 k) (t 81 ((N.length : Int) - 1 - r)) sl (fun u77 => ((u77 = 0 → fX12_song_j289 ((N.length : Int) - 1 - r) t k (fX12_song_L126 sl u4 ((N.length : Int) - 1 - r) K (n + 1)) 100000000) ∧ (¬ (u77 = 0) → fX12_song_j289 ((N.length : Int) - 1 - r) t k (fX12_song_L126 sl u4 ((N.length : Int) - 1 - r) K (n + 1)) x5))) := by
      intro x5 h5
      rw [e80, e81]
      refine ⟨by omega, by omega, tX12_isNear (by omega) (by omega) ?_⟩
      split
      · rename_i g
        exact ⟨fun hh => absurd hh (by omega), fun _ => set x5 (h5 g)⟩
      · rename_i g
        refine ⟨fun _ => set _ ?_, fun hh => absurd rfl hh⟩
        have e : sp_co (zN z) N sl r k = -1 := by
          match r, g with
          | 0, g =>
            rw [sp_co, if_neg]
            rw [show (N.length : Int) - 1 = (N.length : Int) - 1 - ((0 : Nat) : Int) by omega]; exact g
          | r' + 1, g =>
            rw [sp_co, if_neg]
            rw [show (N.length : Int) - 1 - ((r' : Int) + 1) = (N.length : Int) - 1 - ((r' + 1 : Nat) : Int) by omega]; exact g
        rw [e]; rfl
    rw [fX12_song_L126]
    unfold fX12_bends
    rw [hF 66 1701 (by omega), HR.2.2.1.2.2.2.1.1, hu]
    refine ⟨fun hh => absurd hh (by omega), fun _ => ⟨by omega, fun g => ?_, fun g => ?_⟩⟩
    · obtain ⟨r', rfl⟩ : ∃ r', r = r' + 1 := ⟨r - 1, by omega⟩
      have ei : (N.length : Int) - 1 - ((r' + 1 : Nat) : Int) + 1 = (N.length : Int) - 1 - r' := by omega
      have hc : ∀ j : Int, 0 ≤ j → j < (nKa (zN z)).length → t 82 (40 * ((N.length : Int) - 1 - ((r' + 1 : Nat) : Int) + 1) + j) = sp_nc (sp_co (zN z) N sl r' j) ∧ -1 ≤ sp_co (zN z) N sl r' j ∧ sp_co (zN z) N sl r' j ≤ 2400000 := fun j q1 q2 => by
        have := sp_co_rg hw N sl r' j q1 q2
        exact ⟨by rw [ei]; exact hkc r' j (by omega) (by omega) q1 q2, by omega, by omega⟩
      refine ⟨(nKa (zN z)).length + 1, ?_⟩
      have key := sp_m154 (s := t) (z := z) (K := fun x5 => (0 ≤ (k : Int) ∧ (k : Int) < 40) ∧ (0 ≤ ((N.length : Int) - 1 - ((r' + 1 : Nat) : Int)) ∧ ((N.length : Int) - 1 - ((r' + 1 : Nat) : Int)) < 60) ∧ fX12_isNear (t 80 k) (t 81 ((N.length : Int) - 1 - ((r' + 1 : Nat) : Int))) sl (fun u77 => ((u77 = 0 → fX12_song_j289 ((N.length : Int) - 1 - ((r' + 1 : Nat) : Int)) t k (fX12_song_L126 sl u4 ((N.length : Int) - 1 - ((r' + 1 : Nat) : Int)) K (n + 1)) 100000000) ∧ (¬ (u77 = 0) → fX12_song_j289 ((N.length : Int) - 1 - ((r' + 1 : Nat) : Int)) t k (fX12_song_L126 sl u4 ((N.length : Int) - 1 - ((r' + 1 : Nat) : Int)) K (n + 1)) x5)))) (u4 := u4) (i := (N.length : Int) - 1 - ((r' + 1 : Nat) : Int)) (k := k) (c := sp_co (zN z) N sl r') (n := N.length) hw HRt hu (by omega) (by omega) (by omega) hc (near _ (fun g2 => ?_)) (nKa (zN z)).length 0 (by omega)
      · exact key
      · have hne := sp_ch_spec (sp_co (zN z) N sl r') (sp_wy (zN z) k) (nKa (zN z)).length
        have eco : sp_co (zN z) N sl (r' + 1) k = if (sp_ch (sp_co (zN z) N sl r') (sp_wy (zN z) k) (nKa (zN z)).length).1 = -1 then -1 else (sp_ch (sp_co (zN z) N sl r') (sp_wy (zN z) k) (nKa (zN z)).length).2 := by
          rw [sp_co, if_pos]
          rw [show (N.length : Int) - 1 - ((r' : Int) + 1) = (N.length : Int) - 1 - ((r' + 1 : Nat) : Int) by omega]; exact g2
        rw [eco]
        unfold sp_nc
        by_cases q : (sp_ch (sp_co (zN z) N sl r') (sp_wy (zN z) k) (nKa (zN z)).length).1 = -1
        · rw [if_pos q, if_pos q, if_pos rfl]
        · rw [if_neg q, if_neg q]
          rcases hne with ⟨q0, -⟩ | ⟨q1, q2, q3, q4, -⟩
          · exact absurd q0 q
          · have c1 := (hc _ q1 q2).2
            have w1 := sp_wy_rg hw (j := k) (k := (sp_ch (sp_co (zN z) N sl r') (sp_wy (zN z) k) (nKa (zN z)).length).1) (by omega) ⟨q1, q2⟩
            rw [if_neg (by omega)]
    · have e0 : r = 0 := by omega
      refine ⟨1, ?_⟩
      rw [fX12_song_L154]
      unfold fX12_bends
      rw [hF 66 1701 (by omega), HR.2.2.1.2.2.2.1.1, hu]
      have fin := near 0 (fun g2 => by
        rw [e0, sp_co, if_pos]
        · rfl
        · rw [show (N.length : Int) - 1 = (N.length : Int) - 1 - ((r : Nat) : Int) by omega]; exact g2)
      exact ⟨fun _ => fin, fun _ => ⟨by omega, fun _ => fin, fun hh => absurd (show (N.length : Int) - 1 ≤ (N.length : Int) - 1 - r by omega) hh⟩⟩
theorem sp_m119 {N : List Int} {sl u4 : Int} {K : sg_M → Prop} (hw : sp_wZ z) (HR : sp_R0 s z) (hu : Int.tdiv u4 2 = N.length) (hN60 : N.length ≤ 60) (hNr : ∀ x, x ∈ N → 1 ≤ x ∧ x ≤ 2000) (hN : sg_ar (s 81) 0 N) (hV : sg_ar (s 80) 0 (sp_vq (zN z)))
    (hK : ∀ t, (∀ c i, c ≠ 82 → t c i = s c i) → sp_km (zN z) N sl t (-1) → K t) : ∀ (n r : Nat) (t : sg_M), r + n = N.length → (∀ c i, c ≠ 82 → t c i = s c i) → sp_km (zN z) N sl t ((N.length : Int) - 1 - r) → fX12_song_L119 sl u4 K (n + 1) t ((N.length : Int) - 1 - r)
  | 0, r, t, hr, hF, hkc => by
    rw [fX12_song_L119]
    have e : (N.length : Int) - 1 - r = -1 := by omega
    rw [e] at hkc ⊢
    exact ⟨fun _ => hK t hF hkc, fun hh => absurd (show (-1 : Int) < 0 by omega) hh⟩
  | n + 1, r, t, hr, hF, hkc => by
    rw [fX12_song_L119]
    have HRt : sp_R0 t z := sp_R0_same HR (fun c i hr => hF c i (by unfold sp_rdm at hr; omega))
    refine ⟨fun hh => absurd hh (by omega), fun _ => ⟨(nKa (zN z)).length + 1, ?_⟩⟩
    refine sp_m126 (s := t) hw HRt hu hN60 hNr (sg_ar_congr _ 0 (fun i _ _ => (hF 81 i (by omega)).symm) hN) (sg_ar_congr _ 0 (fun i _ _ => (hF 80 i (by omega)).symm) hV) (r := r) (by omega) (fun u hFu hkcu => ⟨by omega, ?_⟩) (nKa (zN z)).length 0 t (by omega) (fun _ _ _ => rfl) hkc (fun k' q1 q2 => by omega)
    have ih := sp_m119 hw HR hu hN60 hNr hN hV hK n (r + 1) u (by omega) (fun c i q => by rw [hFu c i q]; exact hF c i q) (by rw [show (N.length : Int) - 1 - ((r + 1 : Nat) : Int) = (N.length : Int) - 1 - r - 1 by omega]; exact hkcu)
    rw [show (N.length : Int) - 1 - ((r + 1 : Nat) : Int) = (N.length : Int) - 1 - r - 1 by omega] at ih; exact ih
theorem sp_m307 {c : Int → Int} {K : Int → Prop} (hw : sp_wZ z) (HR : sp_R0 s z) (hc : ∀ j : Int, 0 ≤ j → j < (nKa (zN z)).length → s 82 j = sp_nc (c j) ∧ -1 ≤ c j ∧ c j ≤ 2400000) (h : K (sp_ch c (fun _ => 0) (nKa (zN z)).length).1) : ∀ (r j : Nat), j + r = (nKa (zN z)).length → fX12_song_L307 s K (r + 1) (sp_ch c (fun _ => 0) j).1 j
  | 0, j, hj => by
    rw [fX12_song_L307]
    unfold fX12_bends
    rw [HR.2.2.1.2.2.2.1.1]
    have e : j = (nKa (zN z)).length := by omega
    rw [e]
    exact ⟨fun _ => h, fun hh => absurd (Int.le_refl _) hh⟩
  | r + 1, j, hj => by
    have hlen := hw.2.2.1.2.2.2.2.2.2.1
    have hcj := hc j (by omega) (by omega)
    have ih := sp_m307 hw HR hc h r (j + 1) (by omega)
    rw [show ((j + 1 : Nat) : Int) = (j : Int) + 1 by omega] at ih
    have hsp := sp_ch_spec c (fun _ => 0) j
    rw [fX12_song_L307]
    unfold fX12_bends
    rw [HR.2.2.1.2.2.2.1.1, hcj.1]
    simp only [fX12_song_j353, fX12_song_j350]
    refine ⟨fun hh => absurd hh (by omega), fun _ => ⟨by omega, fun g => ⟨by omega, ?_⟩, fun g => ?_⟩⟩
    · have e1 : c j = -1 := by unfold sp_nc at g; split at g <;> omega
      rw [sp_ch, if_pos e1] at ih; exact ih
    · have e1 : c j ≠ -1 := fun q => g (by unfold sp_nc; rw [if_pos q]; omega)
      have enc : sp_nc (c j) = c j := by unfold sp_nc; rw [if_neg e1]
      rw [sp_ch, if_neg e1] at ih
      refine ⟨fun q => ⟨by omega, ?_⟩, fun q => ?_⟩
      · rw [if_pos q] at ih; exact ih
      · rw [if_neg q] at ih
        rcases hsp with ⟨q0, -⟩ | ⟨q1, q2, q3, q4, -⟩
        · exact absurd q0 q
        · have cb := hc _ q1 (by omega)
          have enb : sp_nc (c (sp_ch c (fun _ => 0) j).1) = c (sp_ch c (fun _ => 0) j).1 := by unfold sp_nc; rw [if_neg q3]
          rw [cb.1, enb, enc]
          rw [q4] at ih
          refine ⟨by omega, by omega, fun g2 => ⟨by omega, ?_⟩, fun g2 => ⟨by omega, ?_⟩⟩
          · rw [if_pos (by omega)] at ih; exact ih
          · rw [if_neg (by omega)] at ih; exact ih
theorem sp_m401 {c : Int → Int} {K : Int → Prop} {i was : Int} (hw : sp_wZ z) (HR : sp_R0 s z) (hi : 1 ≤ i ∧ i < 60) (hwas : s 83 (i - 1) = was) (hwr : 0 ≤ was ∧ was < (nKa (zN z)).length) (hc : ∀ j : Int, 0 ≤ j → j < (nKa (zN z)).length → s 82 (40 * i + j) = sp_nc (c j) ∧ -1 ≤ c j ∧ c j ≤ 2400000)
    (hne : (sp_ch c (sp_wy (zN z) was) (nKa (zN z)).length).1 ≠ -1) (hprev : s 82 (40 * (i - 1) + was) = (sp_ch c (sp_wy (zN z) was) (nKa (zN z)).length).2) (h : K (sp_ch c (sp_wy (zN z) was) (nKa (zN z)).length).1) :
    ∀ (r j : Nat), (j : Int) + r = (sp_ch c (sp_wy (zN z) was) (nKa (zN z)).length).1 → fX12_song_L401 s i K (r + 1) j
  | r, j, hj => by
    have hlen := hw.2.2.1.2.2.2.2.2.2.1
    have hsp := sp_ch_spec c (sp_wy (zN z) was) (nKa (zN z)).length
    rcases hsp with ⟨q, -⟩ | ⟨q1, q2, q3, q4, q5⟩
    · exact absurd q hne
    · have hcj := hc j (by omega) (by omega)
      have hwy := sp_wy_rg hw hwr (k := j) (by omega)
      have cb := hc _ q1 q2
      have wb := sp_wy_rg hw hwr (k := (sp_ch c (sp_wy (zN z) was) (nKa (zN z)).length).1) ⟨q1, q2⟩
      rw [fX12_song_L401, hcj.1, hwas, hprev]
      simp only [fX12_song_j460]
      refine ⟨by omega, fun g => ⟨by omega, ?_⟩, fun g => ?_⟩
      · have e1 : c j = -1 := by unfold sp_nc at g; split at g <;> omega
        match r, hj with
        | 0, hj =>
          exact absurd (by rw [← show (j : Int) = (sp_ch c (sp_wy (zN z) was) (nKa (zN z)).length).1 by omega]; exact e1) q3
        | r + 1, hj =>
          have ih := sp_m401 hw HR hi hwas hwr hc hne hprev h r (j + 1) (by omega)
          rw [show ((j + 1 : Nat) : Int) = (j : Int) + 1 by omega] at ih; exact ih
      · have e1 : c j ≠ -1 := fun q => g (by unfold sp_nc; rw [if_pos q])
        have enc : sp_nc (c j) = c j := by unfold sp_nc; rw [if_neg e1]
        rw [enc]
        refine tX12_way hw HR hwr (by omega) ⟨by omega, by omega, by omega, fun g2 => ?_, fun g2 => ⟨by omega, ?_⟩⟩
        · by_cases hr : r = 0
          · rw [show (j : Int) = (sp_ch c (sp_wy (zN z) was) (nKa (zN z)).length).1 by omega]; exact h
          · have := q5 j (by omega) (by omega) e1
            omega
        · match r, hj with
          | 0, hj =>
            have ej : (j : Int) = (sp_ch c (sp_wy (zN z) was) (nKa (zN z)).length).1 := by omega
            rw [q4, ← ej] at g2
            exact absurd (show sp_wy (zN z) was j + c j = c j + sp_wy (zN z) was j by omega) g2
          | r + 1, hj =>
            have ih := sp_m401 hw HR hi hwas hwr hc hne hprev h r (j + 1) (by omega)
            rw [show ((j + 1 : Nat) : Int) = (j : Int) + 1 by omega] at ih; exact ih
theorem sp_m381 {N : List Int} {sl u4 : Int} {Q : Int → sg_M → Prop} (hw : sp_wZ z) (hway : ∀ (t : sg_M), (∀ c i, c ≠ 83 → t c i = s c i) → ∃ z', zN z' = zN z ∧ sp_R0 t z' ∧ sp_wZ z') (hu : Int.tdiv u4 2 = N.length) (hN0 : 1 ≤ N.length) (hN60 : N.length ≤ 60) (h0 : sp_st0 (zN z) N sl ≠ -1) (hkc : sp_km (zN z) N sl s (-1))
    (hQ : ∀ t, (∀ c i, c ≠ 83 → t c i = s c i) → sg_ar (t 83) 0 (sp_us (zN z) N sl N.length) → Q (sp_co (zN z) N sl (N.length - 1) (sp_st0 (zN z) N sl)) t) :
    ∀ (n i : Nat) (t : sg_M), i + n = N.length → 1 ≤ i → (∀ c i, c ≠ 83 → t c i = s c i) → sg_ar (t 83) 0 (sp_us (zN z) N sl i) → fX12_song_L381 u4 (sp_st0 (zN z) N sl) Q (n + 1) t i
  | 0, i, t, hi, hi1, hF, har => by
    have hs0 := sp_ub_ok hw N sl h0 0 (by omega)
    rw [sp_ub, Nat.sub_zero] at hs0
    have hlen := hw.2.2.1.2.2.2.2.2.2.1
    rw [fX12_song_L381, hu]
    refine ⟨fun _ => ⟨by omega, ?_⟩, fun hh => absurd (show (N.length : Int) ≤ i by omega) hh⟩
    have := hkc (N.length - 1) (sp_st0 (zN z) N sl) (by omega) (by omega) hs0.1 hs0.2.1
    rw [show (40 * ((N.length : Int) - 1 - ((N.length - 1 : Nat) : Int)) + sp_st0 (zN z) N sl) = sp_st0 (zN z) N sl by omega] at this
    rw [hF 82 _ (by omega), this]
    unfold sp_nc
    rw [if_neg hs0.2.2]
    refine hQ t hF ?_
    rw [show N.length = i by omega]; exact har
  | n + 1, i, t, hi, hi1, hF, har => by
    obtain ⟨i', rfl⟩ : ∃ i', i = i' + 1 := ⟨i - 1, by omega⟩
    have hs0 := sp_ub_ok hw N sl h0 i' (by omega)
    have hs1 := sp_ub_ok hw N sl h0 (i' + 1) (by omega)
    have hlen := hw.2.2.1.2.2.2.2.2.2.1
    have hl := sp_us_at (zN z) N sl (i' + 1) i'
    obtain ⟨z2, hz2, HR2, hw2⟩ := hway t hF
    have hwas : t 83 (((i' + 1 : Nat) : Int) - 1) = sp_ub (zN z) N sl i' := by
      rw [show ((i' + 1 : Nat) : Int) - 1 = i' by omega, sp_at_in har (by omega) (by rw [hl.1]; omega), hl.2 (by omega) (by omega), Int.toNat_natCast]
    have hc : ∀ j : Int, 0 ≤ j → j < (nKa (zN z)).length → t 82 (40 * ((i' + 1 : Nat) : Int) + j) = sp_nc (sp_co (zN z) N sl (N.length - 2 - i') j) ∧ -1 ≤ sp_co (zN z) N sl (N.length - 2 - i') j ∧ sp_co (zN z) N sl (N.length - 2 - i') j ≤ 2400000 := fun j q1 q2 => by
      have := hkc (N.length - 2 - i') j (by omega) (by omega) q1 q2
      have hr := sp_co_rg hw N sl (N.length - 2 - i') j q1 q2
      rw [show ((N.length : Int) - 1 - ((N.length - 2 - i' : Nat) : Int)) = ((i' + 1 : Nat) : Int) by omega] at this
      rw [hF 82 _ (by omega)]
      exact ⟨this, by omega, by omega⟩
    have hub : sp_ub (zN z) N sl (i' + 1) = (sp_ch (sp_co (zN z) N sl (N.length - 2 - i')) (sp_wy (zN z) (sp_ub (zN z) N sl i')) (nKa (zN z)).length).1 := by rw [sp_ub]
    have hne : (sp_ch (sp_co (zN z) N sl (N.length - 2 - i')) (sp_wy (zN z) (sp_ub (zN z) N sl i')) (nKa (zN z)).length).1 ≠ -1 := by rw [← hub]; omega
    have hprev : t 82 (40 * (((i' + 1 : Nat) : Int) - 1) + sp_ub (zN z) N sl i') = (sp_ch (sp_co (zN z) N sl (N.length - 2 - i')) (sp_wy (zN z) (sp_ub (zN z) N sl i')) (nKa (zN z)).length).2 := by
      have := hkc (N.length - 1 - i') (sp_ub (zN z) N sl i') (by omega) (by omega) hs0.1 hs0.2.1
      rw [show ((N.length : Int) - 1 - ((N.length - 1 - i' : Nat) : Int)) = ((i' + 1 : Nat) : Int) - 1 by omega] at this
      rw [hF 82 _ (by omega), this]
      have hco := hs0.2.2
      rw [show N.length - 1 - i' = (N.length - 2 - i') + 1 by omega, sp_co] at hco ⊢
      split at hco
      · rename_i gg
        rw [if_pos gg, if_neg hne]
        unfold sp_nc; rw [if_neg hco]
      · exact absurd rfl hco
    rw [fX12_song_L381, hu]
    refine ⟨fun hh => absurd hh (by omega), fun _ => ⟨by omega, ⟨(sp_ub (zN z) N sl (i' + 1)).toNat + 1, ?_⟩⟩⟩
    have key := sp_m401 (s := t) (z := z2) (c := sp_co (zN z) N sl (N.length - 2 - i')) (i := ((i' + 1 : Nat) : Int)) (was := sp_ub (zN z) N sl i') (K := fun x6 => (0 ≤ ((i' + 1 : Nat) : Int) ∧ ((i' + 1 : Nat) : Int) < 60) ∧ ∀ s139 : sg_M, s139 = sg_up t 83 ((i' + 1 : Nat) : Int) x6 → sg_R (((i' + 1 : Nat) : Int) + 1) ∧ fX12_song_L381 u4 (sp_st0 (zN z) N sl) Q (n + 1) s139 (((i' + 1 : Nat) : Int) + 1)) hw2 HR2 (by omega) hwas (by rw [hz2]; exact ⟨hs0.1, hs0.2.1⟩) (by rw [hz2]; exact hc) (by rw [hz2]; exact hne) (by rw [hz2]; exact hprev) ?_ (sp_ub (zN z) N sl (i' + 1)).toNat 0 ?_
    · exact key
    · rw [hz2, ← hub]
      refine ⟨by omega, fun s139 h139 => ⟨by omega, ?_⟩⟩
      have ih := sp_m381 hw hway hu hN0 hN60 h0 hkc hQ n (i' + 1 + 1) s139 (by omega) (by omega) (fun c i q => by rw [h139, sg_upN _ (by omega)]; exact hF c i q) ?_
      · rw [show ((i' + 1 + 1 : Nat) : Int) = ((i' + 1 : Nat) : Int) + 1 by omega] at ih; exact ih
      · rw [sp_us]
        refine sg_ar_snoc _ 0 (sg_ar_congr _ 0 (fun j q1 q2 => ?_) har) ?_
        · rw [hl.1] at q2
          rw [h139, sg_upN _ (by omega)]
        · rw [hl.1, Int.zero_add, h139, sg_upS]
    · rw [hz2, ← hub]; omega
def sp_tab (f : Int → Int) : Nat → List Int
  | 0 => []
  | m + 1 => sp_tab f m ++ [f m]
theorem sp_tab_ar (f : Int → Int) : ∀ m : Nat, (sp_tab f m).length = m ∧ sg_ar f 0 (sp_tab f m)
  | 0 => ⟨rfl, trivial⟩
  | m + 1 => by
    have ih := sp_tab_ar f m
    rw [sp_tab]
    exact ⟨by rw [List.length_append, ih.1]; rfl, sg_ar_snoc _ 0 ih.2 (by rw [ih.1, Int.zero_add])⟩
theorem sp_R0_U {t t' : sg_M} {U : List Int} (H : sp_R0 t z) (e : ∀ c i, (c = 64 → i ≠ 50) → c ≠ 80 → c ≠ 81 → c ≠ 82 → c ≠ 83 → t' c i = t c i) (hU : t' 64 50 = U.length ∧ sg_ar (t' 83) 0 U) : sp_R0 t' (zU' z U) := by
  obtain ⟨hT, hF, hN, hI, hL, hG, hW, hR, hD, hE, -⟩ := H
  have f : ∀ c i, c ≠ 64 → (c < 80 ∨ 83 < c) → t' c i = t c i := fun c i h1 h2 => e c i (by omega) (by omega) (by omega) (by omega) (by omega)
  have g : ∀ i, i ≠ 50 → t' 64 i = t 64 i := fun i h => e 64 i (by omega) (by omega) (by omega) (by omega) (by omega)
  exact ⟨sp_m2 hT (g 2 (by omega)) (fun i => f 65 i (by omega) (by omega)), by rw [g 10 (by omega)]; exact hF, sp_mN0 hN (fun i => f 66 i (by omega) (by omega)), sp_mI0 hI (fun i => f 71 i (by omega) (by omega)) (fun i => f 68 i (by omega) (by omega)), fun w h1 h2 => by rw [f 77 w (by omega) (by omega)]; exact hL w h1 h2,
    sp_m2 hG (g 37 (by omega)) (fun i => f 78 i (by omega) (by omega)), by rw [g 38 (by omega)]; exact hW, by rw [g 56 (by omega)]; exact hR, sp_m2 hD (g 52 (by omega)) (fun i => f 84 i (by omega) (by omega)), sp_m2 hE (g 55 (by omega)) (fun i => f 86 i (by omega) (by omega)), hU⟩
theorem sp_m52 {T : List Int} {n : Nat} {Q : Int → sg_M → Prop} {K : sg_M → Prop} (hT : sg_ar (s 65) 0 T) (hn : T.length = n) (hl : n ≤ 120) (hb : ∀ x, x ∈ T → 0 ≤ x ∧ x ≤ 255) (h2 : n % 2 = 0)
    (hQ : ∀ t, (∀ c i, c ≠ 81 → t c i = s c i) → sp_nv T (n / 2) 0 ≠ 1 → Q (-2) t) (hK : ∀ t, (∀ c i, c ≠ 81 → t c i = s c i) → sp_nv T (n / 2) 0 = 1 → sg_ar (t 81) 0 (sp_nl T (n / 2) 0) → K t) :
    ∀ (r j : Nat) (P : List Int) (t : sg_M), j + r = n / 2 → P.length = j → (∀ c i, c ≠ 81 → t c i = s c i) → sg_ar (t 81) 0 P → P ++ sp_nl T r (2 * j) = sp_nl T (n / 2) 0 → sp_nv T r (2 * j) = sp_nv T (n / 2) 0 → fX12_song_L52 n Q K (r + 1) t j
  | 0, j, P, t, hj, hP, hF, har, he, hv => by
    have td2 : Int.tdiv (n : Int) 2 = ((n / 2 : Nat) : Int) := by rw [Int.tdiv_eq_ediv_of_nonneg (by omega)]; omega
    rw [fX12_song_L52, td2]
    rw [sp_nl, List.append_nil] at he
    rw [he] at har
    rw [sp_nv] at hv
    exact ⟨by omega, fun _ => hK t hF hv.symm har, fun hh => absurd (show ((n / 2 : Nat) : Int) ≤ j by omega) hh⟩
  | r + 1, j, P, t, hj, hP, hF, har, he, hv => by
    have td2 : Int.tdiv (n : Int) 2 = ((n / 2 : Nat) : Int) := by rw [Int.tdiv_eq_ediv_of_nonneg (by omega)]; omega
    have e0 := sp_at_in hT (show 0 ≤ 2 * (j : Int) by omega) (by omega)
    have e1 := sp_at_in hT (show 0 ≤ 2 * (j : Int) + 1 by omega) (by omega)
    have p0 := sp_at_b0 hb (i := 2 * j) (by omega) (by omega)
    have p1 := sp_at_b0 hb (i := 2 * j + 1) (by omega) (by omega)
    rw [fX12_song_L52, td2, hF 65 _ (by omega), hF 65 _ (by omega), e0, e1]
    have epr : 256 * sp_at T (2 * j) + sp_at T (2 * j + 1) = sp_pr T (2 * j) := by unfold sp_pr; omega
    rw [epr]
    rw [sp_nl] at he
    rw [sp_nv] at hv
    refine ⟨by omega, fun hh => absurd hh (by omega), fun _ => ⟨by omega, by omega, by omega, by rw [← epr]; omega, fun v27 h27 s29 h29 => ⟨by omega, ?_⟩⟩⟩
    have e29 : s29 81 j = sp_pr T (2 * j) := by rw [h29, sg_upS, h27]
    have f29 : ∀ c i, c ≠ 81 → s29 c i = s c i := fun c i q => by rw [h29, sg_upN _ (by omega)]; exact hF c i q
    rw [e29]
    refine tX12_isIn ?_
    split
    · rename_i g
      rw [if_pos g] at hv
      refine ⟨fun _ => ⟨by omega, ?_⟩, fun hh => absurd hh (by omega)⟩
      have ih := sp_m52 hT hn hl hb h2 hQ hK r (j + 1) (P ++ [sp_pr T (2 * j)]) s29 (by omega) (by simp only [List.length_append, List.length_cons, List.length_nil]; omega) f29 (sg_ar_snoc _ 0 (sg_ar_congr _ 0 (fun i q1 q2 => by rw [h29, sg_upN _ (by omega)]) har) (by rw [hP, Int.zero_add]; exact e29))
        (by rw [List.append_assoc, show (2 : Int) * ((j + 1 : Nat) : Int) = 2 * j + 2 by omega]; exact he) (by rw [show (2 : Int) * ((j + 1 : Nat) : Int) = 2 * j + 2 by omega]; exact hv)
      rw [show ((j + 1 : Nat) : Int) = (j : Int) + 1 by omega] at ih; exact ih
    · rename_i g
      rw [if_neg g] at hv
      exact ⟨fun hh => absurd rfl hh, fun _ => hQ s29 f29 (by omega)⟩
theorem k2Song {sl : Int} {Q : Int → sg_M → Prop} (hw : sp_wZ z) (H : sp_RM s z) (h : ∀ s', sp_FC s s' → sp_RM s' (ySong z sl) → Q (aSong z sl) s') : fX12_song s sl Q := by
  obtain ⟨H0, h20, F0, -⟩ := sp_go H
  intro s1 h1
  rw [← h1] at H0 F0 h20
  refine tX12_lay ?_
  intro s2 h2
  have hT := H0.1
  rw [hT.1]
  have e2 : ∀ c i, (c = 64 → i ≠ 2) → s2 c i = sp_ly s1 c i := fun c i q => by rw [h2, sg_upN _ (by omega)]
  have H2 : sp_R0 s2 (zT' z []) := sp_R0_T H0 (fun c i q _ => e2 c i q) ⟨by rw [h2, sg_upS]; rfl, trivial⟩
  have F2 : sp_FC s s2 := fun c i q => by rw [e2 c i (by omega)]; exact F0 c i q
  have h20' : s2 64 20 ≠ 0 := by rw [e2 64 20 (by omega)]; exact h20
  have hT2 : sg_ar (s2 65) 0 (zT z) := sg_ar_congr _ 0 (fun i _ _ => (e2 65 i (by omega)).symm) hT.2
  have hlen540 := hw.1
  have hw' : sp_wZ (zT' z []) := by
    obtain ⟨a1, a2, a3⟩ := hw
    exact ⟨by show ([] : List Int).length ≤ 540; simp, fun x hx => (by cases hx), a3⟩
  have no : ¬ sp_sc z sl → ∀ t, (∀ c i, c ≠ 81 → t c i = s2 c i) → Q (-2) t := fun g t hF => by
    unfold aSong ySong at h; rw [if_neg g, if_neg (fun hh => g hh.1)] at h
    exact h t (fun c i q => by rw [hF c i (by omega)]; exact F2 c i q) (sp_RM_of (sp_R0_same H2 (fun c i hr => hF c i (by unfold sp_rdm at hr; omega))) (by rw [hF 64 20 (by omega)]; exact h20'))
  have tm2 : Int.tmod ((zT z).length : Int) 2 = (((zT z).length % 2 : Nat) : Int) := by rw [Int.tmod_eq_emod_of_nonneg (by omega)]; omega
  have td2 : Int.tdiv ((zT z).length : Int) 2 = (((zT z).length / 2 : Nat) : Int) := by rw [Int.tdiv_eq_ediv_of_nonneg (by omega)]; omega
  rw [tm2, td2]
  refine ⟨by omega, fun g => no (by omega) _ (fun _ _ _ => rfl), fun g => ⟨by omega, tX12_isIn ?_⟩⟩
  split
  · rename_i g2
    refine ⟨fun hh => absurd hh (by omega), fun _ => tX12_isIn ?_⟩
    split
    · rename_i g3
      refine ⟨fun _ => ⟨(zT z).length / 2 + 1, ?_⟩, fun hh => absurd hh (by omega)⟩
      refine sp_m52 (s := s2) (T := zT z) hT2 rfl (by omega) hw.2.1 (by omega) (fun t hF hnv => no (fun hh => hnv hh.2.2.2.2.2) t hF) (fun t hF hnv har => ?_) ((zT z).length / 2) 0 [] s2 (by omega) rfl (fun _ _ _ => rfl) trivial rfl rfl
      have hc : sp_sc z sl := ⟨g3.1, g3.2, by omega, by omega, by omega, hnv⟩
      have hNr := sp_nl_rg _ _ hnv
      have hlenN : (sp_no z).length = (zT z).length / 2 := sp_nl_len _ _ _
      change sg_ar (t 81) 0 (sp_no z) at har
      change ∀ x, x ∈ sp_no z → _ at hNr
      have HRt : sp_R0 t (zT' z []) := sp_R0_same H2 (fun c i hr => hF c i (by unfold sp_rdm at hr; omega))
      unfold aSong ySong at h
      rw [if_pos hc] at h
      refine sp_si hw' HRt (fun u hFu HRu r80 => ⟨by omega, ⟨(sp_no z).length + 1, ?_⟩⟩)
      have har2 : sg_ar (u 81) 0 (sp_no z) := sg_ar_congr _ 0 (fun i _ _ => (hFu 81 i (by omega) (by omega)).symm) har
      have key := sp_m119 (s := u) (z := zT' z []) (N := sp_no z) (sl := sl) (u4 := ((zT z).length : Int)) (K := fun s_302e119 => (∃ n106 : Nat, fX12_song_L307 s_302e119 (fun x3_359e307 => ((x3_359e307 ≠ (-1) → sg_R (Int.tdiv ((zT z).length : Int) 2) ∧ ∀ s109 : sg_M, s109 = sg_up s_302e119 64 50 (Int.tdiv ((zT z).length : Int) 2) → ∀ s112 : sg_M, s112 = sg_up s109 83 0 x3_359e307 → (∃ n142 : Nat, fX12_song_L381 ((zT z).length : Int) x3_359e307 Q n142 s112 1)) ∧ (x3_359e307 = (-1) → Q (-1) s_302e119))) n106 (-1) 0))
        hw' HRu (by rw [td2, hlenN]) (by omega) hNr har2 r80 (fun v hFv hkm => ?_) (sp_no z).length 0 u (by omega) (fun _ _ _ => rfl) (fun r k q1 q2 q3 q4 => by omega)
      · rw [show ((sp_no z).length : Int) - 1 - ((0 : Nat) : Int) = (((zT z).length / 2 : Nat) : Int) - 1 by omega] at key
        rw [td2] at key; exact key
      · have HRv : sp_R0 v (zT' z []) := sp_R0_same HRu (fun c i hr => hFv c i (by unfold sp_rdm at hr; omega))
        have FCv : sp_FC s v := fun c i q => by rw [hFv c i (by omega), hFu c i (by omega) (by omega), hF c i (by omega)]; exact F2 c i q
        have v20 : v 64 20 ≠ 0 := by rw [hFv 64 20 (by omega), hFu 64 20 (by omega) (by omega), hF 64 20 (by omega)]; exact h20'
        have hlen := hw.2.2.1.2.2.2.2.2.2.1
        refine ⟨(nKa (zN z)).length + 1, ?_⟩
        refine sp_m307 (s := v) (z := zT' z []) (c := sp_co (zN z) (sp_no z) sl ((sp_no z).length - 1)) hw' HRv (fun j q1 q2 => ?_) ?_ (nKa (zN z)).length 0 (by rw [Nat.zero_add]; rfl)
        · have := hkm ((sp_no z).length - 1) j (by omega) (by omega) q1 q2
          have hr := sp_co_rg hw (sp_no z) sl ((sp_no z).length - 1) j q1 q2
          rw [show (40 * (((sp_no z).length : Int) - 1 - (((sp_no z).length - 1 : Nat) : Int)) + j) = j by omega] at this
          exact ⟨this, by omega, by omega⟩
        · change (sp_st0 (zN z) (sp_no z) sl ≠ -1 → _) ∧ (sp_st0 (zN z) (sp_no z) sl = -1 → _)
          refine ⟨fun g5 => ⟨by rw [td2]; omega, fun s109 h109 s112 h112 => ⟨(sp_no z).length, ?_⟩⟩, fun g5 => ?_⟩
          · rw [if_neg g5, if_pos ⟨hc, g5⟩] at h
            have e112 : ∀ c i, (c = 64 → i ≠ 50) → c ≠ 83 → s112 c i = v c i := fun c i q1 q2 => by rw [h112, sg_upN _ (by omega), h109, sg_upN _ (by omega)]
            have x50 : s112 64 50 = (sp_no z).length := by rw [h112, sg_upN _ (by omega), h109, sg_upS, td2, hlenN]
            have mk : ∀ w U, (∀ c i, c ≠ 83 → w c i = s112 c i) → U.length = (sp_no z).length → sg_ar (w 83) 0 U → sp_R0 w (zU' (zT' z []) U) := fun w U hFw hl har' =>
              sp_R0_U HRv (fun c i q1 _ _ _ q2 => by rw [hFw c i q2, e112 c i q1 q2]) ⟨by rw [hFw 64 50 (by omega), x50, hl], har'⟩
            have wzU : ∀ U : List Int, U.length ≤ 60 → sp_wZ (zU' (zT' z []) U) := fun U hU => by
              obtain ⟨a1, a2, a3, a4, a5, a6, a7, a8⟩ := hw'
              exact ⟨a1, a2, a3, a4, a5, a6, a7, hU⟩
            have fin := sp_m381 (s := s112) (z := z) (N := sp_no z) (sl := sl) (u4 := ((zT z).length : Int)) (Q := Q) hw (fun w hFw => ⟨zU' (zT' z []) (sp_tab (w 83) (sp_no z).length), rfl, mk w _ hFw (sp_tab_ar _ _).1 (sp_tab_ar _ _).2, wzU _ (by rw [(sp_tab_ar _ _).1]; omega)⟩) (by rw [td2, hlenN]) (by omega) (by omega) g5
              (fun r k q1 q2 q3 q4 => by rw [e112 82 _ (by omega) (by omega)]; exact hkm r k q1 q2 q3 q4) (fun w hFw hrw => ?_) ((sp_no z).length - 1) 1 s112 (by omega) (by omega) (fun _ _ _ => rfl) ?_
            · rw [show (sp_no z).length - 1 + 1 = (sp_no z).length by omega] at fin; exact fin
            · refine h w (fun c i q => by rw [hFw c i (by omega), e112 c i (by omega) (by omega)]; exact FCv c i q) (sp_RM_of (mk w _ hFw (sp_us_at (zN z) (sp_no z) sl (sp_no z).length 0).1 hrw) ?_)
              rw [hFw 64 20 (by omega), e112 64 20 (by omega) (by omega)]; exact v20
            · rw [sp_us, sp_us, sp_ub]
              refine ⟨?_, trivial⟩
              rw [h112, sg_upS]; rfl
          · rw [if_pos g5, if_neg (fun hh => hh.2 g5)] at h
            exact h v FCv (sp_RM_of HRv v20)
    · rename_i g3
      exact ⟨fun hh => absurd rfl hh, fun _ => no (by omega) _ (fun _ _ _ => rfl)⟩
  · rename_i g2
    exact ⟨fun _ => no (by omega) _ (fun _ _ _ => rfl), fun hh => absurd rfl hh⟩
theorem wSong {sl : Int} (hw : sp_wZ z) : sp_wZ (ySong z sl) := by
  unfold ySong
  have hw' : sp_wZ (zT' z []) := by
    obtain ⟨a1, a2, a3⟩ := hw
    exact ⟨by show ([] : List Int).length ≤ 540; simp, fun x hx => (by cases hx), a3⟩
  split
  · rename_i hc
    obtain ⟨a1, a2, a3, a4, a5, a6, a7, a8⟩ := hw'
    refine ⟨a1, a2, a3, a4, a5, a6, a7, ?_⟩
    show (sp_us (zN z) (sp_no z) sl (sp_no z).length).length ≤ 60
    rw [(sp_us_at (zN z) (sp_no z) sl (sp_no z).length 0).1]
    have : (sp_no z).length = (zT z).length / 2 := sp_nl_len _ _ _
    have := hc.1
    omega
  · exact hw'
end SGKi
