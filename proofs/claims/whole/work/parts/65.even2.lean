/-! LEVEL 2: even, the reference's side. -/
noncomputable section SGKf
variable {La : sg_L} {s : sg_M} {z : sp_Z}
theorem sp_vf {j k : Int} (hw : sp_wZ z) (hj : 0 ≤ j ∧ j < (nKa (zN z)).length) : sp_pv z j k 0 = sp_at (sp_vq (zN z)) j := by
  unfold sp_pv sp_tv sp_vq
  rw [sp_ge_0, sp_ge_0, sp_at_zip _ _ _ _ hw.2.2.1.2.2.2.2.2.1 hj.1 hj.2]
theorem sp_vt {j k : Int} (hw : sp_wZ z) (hk : 0 ≤ k ∧ k < (nKa (zN z)).length) : sp_pv z j k 100 = sp_at (sp_vq (zN z)) k := by
  unfold sp_pv sp_tv sp_vq
  rw [sp_ge_n (by omega), sp_ge_n (by omega), sp_at_zip _ _ _ _ hw.2.2.1.2.2.2.2.2.1 hk.1 hk.2]
def sp_F5 (s s' : sg_M) : Prop := ∀ c i, (c = 64 → i < 27 ∨ (42 < i ∧ i ≠ 55) ∨ (33 < i ∧ i < 39)) → (c < 72 ∨ (76 < c ∧ c ≠ 80 ∧ c ≠ 85 ∧ c ≠ 86)) → s' c i = s c i
theorem sp_p2L {j k : Int} {K : sg_M → Prop} (hw : sp_wZ z) (hj : 0 ≤ j ∧ j < (nKa (zN z)).length) (hk : 0 ≤ k ∧ k < (nKa (zN z)).length)
    (hK : ∀ t, sp_F5 s t → sp_R0 t z → sg_ar (t 85) 0 (sp_q z j k) → K t) : ∀ (r m : Nat) (t : sg_M), m + r = 101 → sp_F5 s t → sp_R0 t z → sg_ar (t 85) 0 (sp_pp z j k m) → fX12_even_L40 j k K (r + 1) t m
  | 0, m, t, hm, hF, HR, har => by
    rw [fX12_even_L40]
    have e : m = 101 := by omega
    rw [e] at har ⊢
    rw [← sp_q_is] at har
    exact ⟨fun _ => hK t hF HR har, fun hh => absurd (show (100 : Int) < ((101 : Nat) : Int) by omega) hh⟩
  | r + 1, m, t, hm, hF, HR, har => by
    have hl2 := hw.2.2.1.2.2.2.2.2.1
    have a1 := sp_bd_at hw.2.2.1.2.2.2.2.2.2.2.1 hj.1 hj.2
    have a2 := sp_bd_at hw.2.2.1.2.2.2.2.2.2.2.1 hk.1 hk.2
    have b1 := sp_bd_at hw.2.2.1.2.2.2.2.2.2.2.2.1 hj.1 (by omega)
    have b2 := sp_bd_at hw.2.2.1.2.2.2.2.2.2.2.2.1 hk.1 (by omega)
    have g1 := sp_ge_bd a1 a2 (p := m) (n := 100) (by omega) (by omega) (by omega)
    have g2 := sp_ge_bd b1 b2 (p := m) (n := 100) (by omega) (by omega) (by omega)
    rw [fX12_even_L40]
    refine ⟨fun hh => absurd hh (by omega), fun _ => ?_⟩
    refine tX12_aOf hw HR hj.1 hj.2 (tX12_aOf hw HR hk.1 hk.2 (tX12_aOf hw HR hj.1 hj.2 ⟨sp_ge_mu a1 a2 (by omega) (by omega), ?_⟩))
    refine tX12_bOf hw HR hj.1 hj.2 (tX12_bOf hw HR hk.1 hk.2 (tX12_bOf hw HR hj.1 hj.2 ⟨sp_ge_mu b1 b2 (by omega) (by omega), ?_, ?_, ?_⟩))
    · change sg_R (sp_ge (sp_at (nKa (zN z)) j) (sp_at (nKa (zN z)) k) m 100); omega
    · change sg_R (sp_ge (sp_at (nKb (zN z)) j) (sp_at (nKb (zN z)) k) m 100); omega
    · refine sp_mv (a := sp_ge (sp_at (nKa (zN z)) j) (sp_at (nKa (zN z)) k) m 100) (b := sp_ge (sp_at (nKb (zN z)) j) (sp_at (nKb (zN z)) k) m 100) hw HR g1 g2 (fun u hFu HRu _ _ => ⟨by omega, fun s35 h35 => ⟨by omega, ?_⟩⟩)
      have ih := sp_p2L hw hj hk hK r (m + 1) s35 (by omega) (fun c i q1 q2 => by rw [h35, sg_upN _ (by omega), hFu c i (by omega) (by omega)]; exact hF c i q1 q2) (sp_R0_same HRu (fun c i hr => by rw [h35]; exact sg_upN _ (by unfold sp_rdm at hr; omega))) ?_
      · rw [show ((m + 1 : Nat) : Int) = (m : Int) + 1 by omega] at ih; exact ih
      · rw [sp_pp]
        refine sg_ar_snoc _ 0 (sg_ar_congr _ 0 (fun i q1 q2 => ?_) har) ?_
        · rw [sp_pp_len] at q2
          rw [h35, sg_upN _ (by omega), hFu 85 i (by omega) (by omega)]
        · rw [sp_pp_len, Int.zero_add, h35, sg_upS]; rfl
theorem sp_n2L {g : Int} {Q : Int → Prop} {P : List Int} (hg : 0 ≤ g ∧ g ≤ 2000) (hP : P.length = 101) (har : sg_ar (s 85) 0 P) (hPr : ∀ x, x ∈ P → 0 ≤ x ∧ x ≤ 2000) : ∀ (l : List Int) (k near : Int), 0 ≤ k → k + l.length = 101 → 0 ≤ near → near < 101 → sg_ar (s 85) k l → (∀ x, x ∈ l → x ∈ P) → Q (sp_nn g l k near (sg_abs (sp_at P near - g))) → fX12_even_L184 s g Q (l.length + 1) near k
  | [], k, near, h0, hk, n0, n1, hl, hm, h => by
    simp only [List.length_nil] at hk
    rw [List.length_nil, fX12_even_L184]
    exact ⟨fun _ => h, fun hh => absurd (show (100 : Int) < k by omega) hh⟩
  | v :: l, k, near, h0, hk, n0, n1, hl, hm, h => by
    simp only [List.length_cons] at hk
    have hv := hPr v (hm v List.mem_cons_self)
    have hnr := hPr _ (sp_at_mem (l := P) n0 (by omega))
    have ih := fun near' q1 q2 => sp_n2L (Q := Q) hg hP har hPr l (k + 1) near' (by omega) (by omega) q1 q2 hl.2 (fun x hx => hm x (List.mem_cons_of_mem _ hx))
    have ev : sp_at P k = v := by rw [← sp_at_in har h0 (by omega)]; exact hl.1
    have en : s 85 near = sp_at P near := sp_at_in har n0 (by omega)
    have e85 : s 85 k = v := hl.1
    rw [sp_nn] at h
    rw [List.length_cons, fX12_even_L184, e85, en]
    simp only [fX12_even_j234]
    refine ⟨fun hh => absurd hh (by omega), fun _ => ⟨by omega, fun q => ⟨by omega, ?_⟩, fun q => ⟨by omega, by omega, tX12_size (by omega) ⟨by omega, by omega, tX12_size (by omega) ⟨fun q2 => ⟨by omega, ?_⟩, fun q2 => ⟨by omega, ?_⟩⟩⟩⟩⟩⟩
    · rw [if_pos q] at h; exact ih near n0 n1 h
    · rw [if_neg q, if_pos q2] at h; exact ih near n0 n1 h
    · rw [if_neg q, if_neg q2] at h
      exact ih k h0 (by omega) (by rw [ev]; exact h)
theorem tX12_near {g : Int} {Q : Int → Prop} {P : List Int} (hg : 0 ≤ g ∧ g ≤ 2000) (hP : P.length = 101) (har : sg_ar (s 85) 0 P) (hPr : ∀ x, x ∈ P → 0 ≤ x ∧ x ≤ 2000) (h1 : 1 ≤ s 85 0) (h : Q (sp_nn g P 0 0 4000)) : ∃ n, fX12_even_L184 s g Q n 0 1 := by
  match P, hP, har, hPr, h with
  | [], hP, _, _, _ => simp at hP
  | v :: l, hP, har, hPr, h =>
    have e0 : s 85 0 = v := har.1
    have hv := hPr v List.mem_cons_self
    have hab : 0 ≤ sg_abs (v - g) ∧ sg_abs (v - g) ≤ 2000 := by unfold sg_abs; split <;> omega
    rw [sp_nn, if_neg (by omega), if_neg (by omega)] at h
    have hP' := hP
    simp only [List.length_cons] at hP
    exact ⟨l.length + 1, sp_n2L hg hP' har hPr l 1 0 (by omega) (by omega) (by omega) (by omega) har.2 (fun x hx => List.mem_cons_of_mem _ hx) h⟩
theorem sp_e2L {j k n : Int} {Q : Int → sg_M → Prop} (hw : sp_wZ z) (hc : sp_ec z j k n) (har : sg_ar (s 85) 0 (sp_q z j k)) (h0v : s 85 0 = sp_at (sp_vq (zN z)) j) (h1v : s 85 100 = sp_at (sp_vq (zN z)) k)
    (hQ : ∀ t, (∀ c i, c ≠ 86 → t c i = s c i) → sg_ar (t 86) 0 (sp_es z j k n (n.toNat + 1)) → Q (sp_ew z j k n (n.toNat + 1)) t) :
    ∀ (r m : Nat) (t : sg_M), m + r = n.toNat + 1 → (∀ c i, c ≠ 86 → t c i = s c i) → sg_ar (t 86) 0 (sp_es z j k n m) → fX12_even_L144 n Q (r + 1) t (sp_ew z j k n m) m
  | 0, m, t, hm, hF, he => by
    rw [fX12_even_L144]
    have e : m = n.toNat + 1 := by omega
    rw [← e] at hQ
    exact ⟨fun _ => hQ t hF he, fun hh => absurd (show n < m by omega) hh⟩
  | r + 1, m, t, hm, hF, he => by
    have v1 := sp_vq_rg hw _ (sp_at_mem (sp_at_pos hc.2.2.1).1 (sp_at_pos hc.2.2.1).2)
    have v2 := sp_vq_rg hw _ (sp_at_mem (sp_at_pos hc.2.2.2).1 (sp_at_pos hc.2.2.2).2)
    have hg := sp_ge_rg (a := sp_at (sp_vq (zN z)) j) (c := sp_at (sp_vq (zN z)) k) (p := m) (n := n) (by omega) (by omega) (by omega)
    have hmu := sp_mu (a := sp_at (sp_vq (zN z)) k - sp_at (sp_vq (zN z)) j) (x := m) (c := 2000) (by omega) (by omega) (by omega)
    have hgr : 0 ≤ sp_ge (sp_at (sp_vq (zN z)) j) (sp_at (sp_vq (zN z)) k) m n ∧ sp_ge (sp_at (sp_vq (zN z)) j) (sp_at (sp_vq (zN z)) k) m n ≤ 2000 := by
      rcases Int.le_total (sp_at (sp_vq (zN z)) j) (sp_at (sp_vq (zN z)) k) with q | q
      · have := hg.1 q; omega
      · have := hg.2 q; omega
    have e85 : ∀ i, t 85 i = s 85 i := fun i => hF 85 i (by omega)
    rw [fX12_even_L144, e85, e85, h0v, h1v]
    simp only [fX12_even_j291]
    refine ⟨fun hh => absurd hh (by omega), fun _ => ⟨by omega, by omega, fun v57 h57 => ?_⟩⟩
    have hv57 : v57 = sp_ge (sp_at (sp_vq (zN z)) j) (sp_at (sp_vq (zN z)) k) m n := h57
    refine ⟨by omega, ?_⟩
    have np : ∀ Q' : Int → Prop, Q' (sp_ei z j k n m) → ∃ x, fX12_even_L184 t v57 Q' x 0 1 := by
      intro Q' hq
      unfold sp_ei at hq
      have hlenP := sp_q_len z j k
      have hmem := sp_q_rg hw j k
      have har' : sg_ar (t 85) 0 (sp_q z j k) := sg_ar_congr _ 0 (fun i _ _ => (e85 i).symm) har
      revert hq har' hlenP hmem
      generalize sp_q z j k = P
      intro hq hlenP hmem har'
      exact tX12_near (by omega) hlenP har' hmem (by rw [e85, h0v]; exact hc.2.2.1) (by rw [hv57]; exact hq)
    refine np _ ⟨by omega, fun s82 h82 => ?_⟩
    have fe : ∀ c i, c ≠ 86 → s82 c i = s c i := fun c i q => by rw [h82, sg_upN _ (by omega)]; exact hF c i q
    have l1 := sp_es_at z j k n m
    have re : sg_ar (s82 86) 0 (sp_es z j k n (m + 1)) := by
      rw [sp_es]
      refine sg_ar_snoc _ 0 (sg_ar_congr _ 0 (fun i q1 q2 => ?_) he) ?_
      · rw [(l1 0).1] at q2
        rw [h82, sg_upN _ (by omega)]
      · rw [(l1 0).1, Int.zero_add, h82, sg_upS]
    have ih := sp_e2L hw hc har h0v h1v hQ r (m + 1) s82 (by omega) fe re
    rw [show ((m + 1 : Nat) : Int) = (m : Int) + 1 by omega, sp_ew] at ih
    have wr := sp_ew_rg z j k n m
    have g1 := sp_ei_rg z j k n m
    have g2 := sp_ei_rg z j k n ((m : Int) - 1)
    refine ⟨fun q => ⟨by omega, ?_⟩, fun q => ⟨by omega, ?_⟩⟩
    · have e0 : m = 0 := by omega
      rw [if_pos e0] at ih
      rw [e0] at ih ⊢; exact ih
    · rw [if_neg (by omega)] at ih
      have l2 := sp_es_at z j k n (m + 1) ((m : Int) - 1)
      have eprev : s82 86 ((m : Int) - 1) = sp_ei z j k n ((m : Int) - 1) := by
        rw [sp_at_in re (by omega) (by rw [l2.1]; omega)]; exact l2.2 (by omega) (by omega)
      rw [eprev]
      have hab : 0 ≤ sg_abs (sp_ei z j k n m - sp_ei z j k n ((m : Int) - 1)) ∧ sg_abs (sp_ei z j k n m - sp_ei z j k n ((m : Int) - 1)) ≤ 101 := by unfold sg_abs; split <;> omega
      refine ⟨by omega, tX12_size (by omega) ⟨fun q2 => ⟨by omega, ?_⟩, fun q2 => ⟨by omega, by omega, tX12_size (by omega) ⟨by omega, ?_⟩⟩⟩⟩
      · have em : sg_max (sp_ew z j k n m) (sg_abs (sp_ei z j k n m - sp_ei z j k n ((m : Int) - 1))) = sp_ew z j k n m := by unfold sg_max; split <;> omega
        rw [em] at ih; exact ih
      · have em : sg_max (sp_ew z j k n m) (sg_abs (sp_ei z j k n m - sp_ei z j k n ((m : Int) - 1))) = sg_abs (sp_ei z j k n m - sp_ei z j k n ((m : Int) - 1)) := by unfold sg_max; split <;> omega
        rw [em] at ih; exact ih
theorem k2Even {j k n : Int} {Q : Int → sg_M → Prop} (hw : sp_wZ z) (H : sp_RM s z) (h : ∀ s', sp_FC s s' → sp_RM s' (yEven z j k n) → Q (aEven z j k n) s') : fX12_even s j k n Q := by
  obtain ⟨H0, h20, F0, -⟩ := sp_go H
  intro s1 h1
  rw [← h1] at H0 F0 h20
  have no : ¬ sp_ec z j k n → ∀ t, sp_FC s t → sp_R0 t z → t 64 20 ≠ 0 → Q (-1) t := fun g t q1 q2 q3 => by
    unfold aEven yEven at h; rw [if_neg g, if_neg g] at h; exact h t q1 (sp_RM_of q2 q3)
  have l1 := sp_vq_len hw
  refine tX12_lay (tX12_isWritten H0 ?_)
  split
  · rename_i gj
    refine ⟨fun hh => absurd hh (by omega), fun _ => tX12_isWritten H0 ?_⟩
    split
    · rename_i gk
      refine ⟨fun hh => absurd hh (by omega), fun _ => tX12_isIn ?_⟩
      split
      · rename_i gn
        refine ⟨fun _ => ⟨102, ?_⟩, fun hh => absurd hh (by omega)⟩
        refine sp_p2L (s := sp_ly s1) (z := z) (j := j) (k := k) hw gj gk ?_ 101 0 _ (by omega) (fun _ _ _ _ => rfl) H0 trivial
        intro t hF HR har
        have hFC : sp_FC s t := fun c i q => by rw [hF c i (by omega) (by omega)]; exact F0 c i q
        have ht20 : t 64 20 ≠ 0 := by rw [hF 64 20 (by omega) (by omega)]; exact h20
        have e0 : t 85 0 = sp_at (sp_vq (zN z)) j := by
          rw [sp_at_in har (by omega) (by rw [sp_q_len]; omega), sp_q_at z j k (by omega) (by omega)]; exact sp_vf hw gj
        have e1 : t 85 100 = sp_at (sp_vq (zN z)) k := by
          rw [sp_at_in har (by omega) (by rw [sp_q_len]; omega), sp_q_at z j k (by omega) (by omega)]; exact sp_vt hw gk
        have v1 := sp_vq_rg hw _ (sp_at_mem (l := sp_vq (zN z)) gj.1 (by omega))
        have v2 := sp_vq_rg hw _ (sp_at_mem (l := sp_vq (zN z)) gk.1 (by omega))
        rw [e0, e1]
        refine ⟨fun g => no (by omega) t hFC HR ht20, fun g => ⟨fun g2 => ⟨by omega, fun s46 h46 => ⟨n.toNat + 2, ?_⟩⟩, fun g2 => no (by omega) t hFC HR ht20⟩⟩
        have hc : sp_ec z j k n := by omega
        unfold aEven yEven at h
        rw [if_pos hc, if_pos hc] at h
        have e46 : ∀ c i, (c = 64 → i ≠ 55) → s46 c i = t c i := fun c i q => by rw [h46, sg_upN _ (by omega)]
        have key := sp_e2L (s := s46) (z := z) (j := j) (k := k) (n := n) (Q := Q) hw hc (sg_ar_congr _ 0 (fun i _ _ => (e46 85 i (by omega)).symm) har) (by rw [e46 85 0 (by omega)]; exact e0) (by rw [e46 85 100 (by omega)]; exact e1) (fun u hFu hru => ?_) (n.toNat + 1) 0 s46 (by omega) (fun _ _ _ => rfl) trivial
        · exact key
        · have fu : ∀ c i, (c = 64 → i ≠ 55) → c ≠ 86 → u c i = t c i := fun c i q1 q2 => by rw [hFu c i q2, e46 c i q1]
          refine h u (fun c i q => by rw [fu c i (by omega) (by omega)]; exact hFC c i q) (sp_RM_of ?_ (by rw [fu 64 20 (by omega) (by omega)]; exact ht20))
          obtain ⟨hT, hFa, hN, hI, hL, hG, hW, hR, hD, -, hU⟩ := HR
          refine ⟨sp_m2 hT (fu 64 2 (by omega) (by omega)) (fun i => fu 65 i (by omega) (by omega)), by rw [fu 64 10 (by omega) (by omega)]; exact hFa, sp_mN0 hN (fun i => fu 66 i (by omega) (by omega)), sp_mI0 hI (fun i => fu 71 i (by omega) (by omega)) (fun i => fu 68 i (by omega) (by omega)), fun w h1 h2 => by rw [fu 77 w (by omega) (by omega)]; exact hL w h1 h2,
            sp_m2 hG (fu 64 37 (by omega) (by omega)) (fun i => fu 78 i (by omega) (by omega)), by rw [fu 64 38 (by omega) (by omega)]; exact hW, by rw [fu 64 56 (by omega) (by omega)]; exact hR, sp_m2 hD (fu 64 52 (by omega) (by omega)) (fun i => fu 84 i (by omega) (by omega)), ⟨?_, hru⟩, sp_m2 hU (fu 64 50 (by omega) (by omega)) (fun i => fu 83 i (by omega) (by omega))⟩
          show u 64 55 = (((sp_es z j k n (n.toNat + 1)).length : Nat) : Int)
          rw [hFu 64 55 (by omega), h46, sg_upS, (sp_es_at z j k n (n.toNat + 1) 0).1]; omega
      · rename_i gn
        exact ⟨fun hh => absurd rfl hh, fun _ => no (by omega) _ F0 H0 h20⟩
    · rename_i gk
      refine ⟨fun _ => no (fun hh => ?_) _ F0 H0 h20, fun hh => absurd rfl hh⟩
      have := sp_at_pos hh.2.2.2; omega
  · rename_i gj
    refine ⟨fun _ => no (fun hh => ?_) _ F0 H0 h20, fun hh => absurd rfl hh⟩
    have := sp_at_pos hh.2.2.1; omega
theorem wEven {j k n : Int} (hw : sp_wZ z) : sp_wZ (yEven z j k n) := by
  unfold yEven; split
  · rename_i hc
    obtain ⟨h1, h2, h3, h4, h5, h6, h7, h8⟩ := hw
    refine ⟨h1, h2, h3, h4, h5, h6, ?_, h8⟩
    show (sp_es z j k n (n.toNat + 1)).length ≤ 21
    rw [(sp_es_at z j k n (n.toNat + 1) 0).1]; omega
  · exact hw
end SGKf
