/-! LEVEL 2: range, read, tremble, write. -/
noncomputable section SGK6
variable {La : sg_L} {s : sg_M} {z : sp_Z}
/-- the places of the lowest voice and of the highest, -1 without one -/
def sp_lh (V : List Int) : List Int → Int → Int → Int → Int × Int
  | [], _, lo, hi => (lo, hi)
  | v :: l, k, lo, hi => if v ≤ 0 then sp_lh V l (k + 1) lo hi else sp_lh V l (k + 1) (if lo = -1 then k else if sp_at V lo ≤ v then lo else k) (if hi = -1 then k else if v ≤ sp_at V hi then hi else k)
def sp_lo (z : sp_Z) : Int := (sp_lh (sp_vq (zN z)) (sp_vq (zN z)) 0 (-1) (-1)).1
def sp_hi (z : sp_Z) : Int := (sp_lh (sp_vq (zN z)) (sp_vq (zN z)) 0 (-1) (-1)).2
def aRange (z : sp_Z) (w : Int) : Int := if w = 0 then sp_at (sp_vq (zN z)) (sp_lo z) else if w = 1 then sp_at (sp_vq (zN z)) (sp_hi z) else if w = 2 then sp_lo z else if w = 3 then sp_hi z else -1
theorem sp_r1L {V : List Int} {K : Int → Int → Prop} (hst : sg_St La) (hr : sp_rw s 58 V) (hV : V.length ≤ 40) : ∀ (l : List Int) (k lo hi : Int), 0 ≤ k → k + l.length = V.length → sg_ar (s 59) k l → K (sp_lh V l k lo hi).1 (sp_lh V l k lo hi).2 → fX11_range_L11 La s K (l.length + 1) lo hi k
  | [], k, lo, hi, h0, hk, hl, h => by
    simp only [List.length_nil] at hk
    rw [List.length_nil, fX11_range_L11]
    exact ⟨fun _ => h, fun hh => absurd (show s 58 1 ≤ k by rw [hr.1]; omega) hh⟩
  | v :: l, k, lo, hi, h0, hk, hl, h => by
    simp only [List.length_cons] at hk
    have ih := fun lo' hi' => sp_r1L (K := K) hst hr hV l (k + 1) lo' hi' (by omega) (by omega) hl.2
    rw [sp_lh] at h
    rw [List.length_cons, fX11_range_L11]
    simp only [fX11_range_j89, fX11_range_j88, fX11_range_j82, fX11_range_j63, fX11_range_j57]
    refine ⟨fun hh => absurd hh (by rw [hr.1]; omega), fun _ => ?_⟩
    refine tX4_at (c := 40) (sp_ln hst 59 10040 rfl) (by omega) hr.1 (by omega) hr.2 ?_
    have ev : sp_at V k = v := by rw [← sp_at_in hr.2 h0 (by omega)]; exact hl.1
    rw [ev]
    refine ⟨fun g => ⟨by omega, ?_⟩, fun g => ?_⟩
    · rw [if_pos g] at h; exact ih _ _ h
    · rw [if_neg g] at h
      have hig : ∀ lo', K (sp_lh V l (k + 1) lo' (if hi = -1 then k else if v ≤ sp_at V hi then hi else k)).1 (sp_lh V l (k + 1) lo' (if hi = -1 then k else if v ≤ sp_at V hi then hi else k)).2 →
          (hi = -1 → sg_R (k + 1) ∧ fX11_range_L11 La s K (l.length + 1) lo' k (k + 1)) ∧ (¬ hi = -1 → fX4_at La s 58 hi (fun u12 => (v ≤ u12 → sg_R (k + 1) ∧ fX11_range_L11 La s K (l.length + 1) lo' hi (k + 1)) ∧ (¬ v ≤ u12 → sg_R (k + 1) ∧ fX11_range_L11 La s K (l.length + 1) lo' k (k + 1)))) := by
        intro lo' h
        refine ⟨fun q => ⟨by omega, ?_⟩, fun q => ?_⟩
        · rw [if_pos q] at h; exact ih _ _ h
        · rw [if_neg q] at h
          refine tX4_at (c := 40) (sp_ln hst 59 10040 rfl) (by omega) hr.1 (by omega) hr.2 ⟨fun q2 => ⟨by omega, ?_⟩, fun q2 => ⟨by omega, ?_⟩⟩
          · rw [if_pos q2] at h; exact ih _ _ h
          · rw [if_neg q2] at h; exact ih _ _ h
      refine ⟨fun q => ?_, fun q => ?_⟩
      · rw [if_pos q] at h; exact hig k h
      · rw [if_neg q] at h
        refine tX4_at (c := 40) (sp_ln hst 59 10040 rfl) (by omega) hr.1 (by omega) hr.2 ⟨fun q2 => ?_, fun q2 => ?_⟩
        · rw [if_pos q2] at h; exact hig lo h
        · rw [if_neg q2] at h; exact hig k h
theorem k1Range {w : Int} {Q : Int → sg_M → Prop} (hst : sg_St La) (h89 : 89 ≤ La.1) (hw : sp_wZ z) (H : sp_RC La s z) (h : ∀ s', sp_FM s s' → sp_RC La s' z → Q (aRange z w) s') : fX11_range La s w Q := by
  have hlen := hw.2.2.1.2.2.2.2.2.2.1
  have l1 := sp_vq_len hw
  refine sp_hb hst h89 hw H (fun t hF HR rV rU => ⟨(sp_vq (zN z)).length + 1, ?_⟩)
  have h := h t (fun c i q1 q2 => hF c i (by omega)) HR
  refine sp_r1L hst rV (by omega) (sp_vq (zN z)) 0 (-1) (-1) (by omega) (by omega) rV.2 ?_
  change _ ∧ _ ∧ _ ∧ _ ∧ _
  unfold aRange sp_lo sp_hi at h
  refine ⟨fun g => ?_, fun g => ?_, fun g => ?_, fun g => ?_, fun g => ?_⟩
  · rw [if_neg (by omega), if_neg (by omega), if_neg (by omega), if_neg (by omega)] at h; exact h
  · rw [if_pos g] at h; exact tX4_at (c := 40) (sp_ln hst 59 10040 rfl) (by omega) rV.1 (by omega) rV.2 h
  · rw [if_neg (by omega), if_pos g] at h; exact tX4_at (c := 40) (sp_ln hst 59 10040 rfl) (by omega) rV.1 (by omega) rV.2 h
  · rw [if_neg (by omega), if_neg (by omega), if_pos g] at h; exact h
  · rw [if_neg (by omega), if_neg (by omega), if_neg (by omega), if_pos g] at h; exact h
/-- both places are there, or none -/
def sp_lr2 (k lo hi : Int) : Prop := (lo = -1 ∧ hi = -1) ∨ (0 ≤ lo ∧ lo < k ∧ 0 ≤ hi ∧ hi < k)
theorem sp_lh_rg (V : List Int) : ∀ (l : List Int) (k lo hi : Int), 0 ≤ k → sp_lr2 k lo hi → sp_lr2 (k + l.length) (sp_lh V l k lo hi).1 (sp_lh V l k lo hi).2
  | [], k, lo, hi, _, h => by simpa [sp_lh] using h
  | v :: l, k, lo, hi, h0, h => by
    have ih := fun lo' hi' => sp_lh_rg V l (k + 1) lo' hi' (by omega)
    rw [List.length_cons, show k + ((l.length + 1 : Nat) : Int) = k + 1 + (l.length : Int) by omega, sp_lh]
    split
    · exact ih _ _ (by unfold sp_lr2 at *; omega)
    · refine ih _ _ ?_
      unfold sp_lr2 at *
      repeat' split
      all_goals omega
theorem sp_r2L {V : List Int} {K : Int → Int → Prop} {t : sg_M} (HR : sp_R0 t z) (hr : sg_ar (t 80) 0 V) (hV : V.length ≤ 40) (hVm : V.length = (nKa (zN z)).length) (hVn : ∀ x, x ∈ V → 0 ≤ x) :
    ∀ (l : List Int) (k lo hi : Int), 0 ≤ k → k + l.length = V.length → sg_ar (t 80) k l → (∀ x, x ∈ l → x ∈ V) → sp_lr2 k lo hi → K (sp_lh V l k lo hi).1 (sp_lh V l k lo hi).2 → fX12_range_L31 t K (l.length + 1) lo hi k
  | [], k, lo, hi, h0, hk, hl, hm, hlr, h => by
    simp only [List.length_nil] at hk
    rw [List.length_nil, fX12_range_L31]
    unfold fX12_bends
    exact ⟨fun _ => h, fun hh => absurd (show t 66 1701 ≤ k by rw [HR.2.2.1.2.2.2.1.1]; omega) hh⟩
  | v :: l, k, lo, hi, h0, hk, hl, hm, hlr, h => by
    simp only [List.length_cons] at hk
    have hv0 := hVn v (hm v List.mem_cons_self)
    have ih := fun lo' hi' hlr' => sp_r2L (K := K) HR hr hV hVm hVn l (k + 1) lo' hi' (by omega) (by omega) hl.2 (fun x hx => hm x (List.mem_cons_of_mem _ hx)) hlr'
    have ev : t 80 k = v := hl.1
    have eat : ∀ i, 0 ≤ i → i < k → t 80 i = sp_at V i := fun i q1 q2 => sp_at_in hr q1 (by omega)
    rw [sp_lh] at h
    rw [List.length_cons, fX12_range_L31]
    unfold fX12_bends
    simp only [fX12_range_j101, fX12_range_j98, fX12_range_j77, fX12_range_j74, ev]
    refine ⟨fun hh => absurd hh (by rw [HR.2.2.1.2.2.2.1.1]; omega), fun _ => ⟨by omega, fun g => ?_, fun g => ⟨by omega, ?_⟩⟩⟩
    · rw [if_neg (by omega)] at h
      have hig : ∀ lo', 0 ≤ lo' → lo' < k + 1 → K (sp_lh V l (k + 1) lo' (if hi = -1 then k else if v ≤ sp_at V hi then hi else k)).1 (sp_lh V l (k + 1) lo' (if hi = -1 then k else if v ≤ sp_at V hi then hi else k)).2 →
          (hi = -1 → sg_R (k + 1) ∧ fX12_range_L31 t K (l.length + 1) lo' k (k + 1)) ∧ (¬ hi = -1 → (0 ≤ k ∧ k < 40) ∧ (0 ≤ hi ∧ hi < 40) ∧ ((v ≤ t 80 hi → sg_R (k + 1) ∧ fX12_range_L31 t K (l.length + 1) lo' hi (k + 1)) ∧ (¬ v ≤ t 80 hi → sg_R (k + 1) ∧ fX12_range_L31 t K (l.length + 1) lo' k (k + 1)))) := by
        intro lo' q1 q2 h
        unfold sp_lr2 at hlr ih
        refine ⟨fun q => ⟨by omega, ?_⟩, fun q => ⟨by omega, by omega, ?_⟩⟩
        · rw [if_pos q] at h; exact ih _ _ (by omega) h
        · rw [if_neg q] at h
          rw [eat hi (by omega) (by omega)]
          refine ⟨fun q3 => ⟨by omega, ?_⟩, fun q3 => ⟨by omega, ?_⟩⟩
          · rw [if_pos q3] at h; exact ih _ _ (by omega) h
          · rw [if_neg q3] at h; exact ih _ _ (by omega) h
      have hlr' := hlr
      unfold sp_lr2 at hlr'
      refine ⟨fun q => ?_, fun q => ⟨by omega, by omega, ?_⟩⟩
      · rw [if_pos q] at h; exact hig k (by omega) (by omega) h
      · rw [if_neg q] at h
        rw [eat lo (by omega) (by omega)]
        refine ⟨fun q2 => ?_, fun q2 => ?_⟩
        · rw [if_pos q2] at h; exact hig lo (by omega) (by omega) h
        · rw [if_neg q2] at h; exact hig k (by omega) (by omega) h
    · rw [if_pos (by omega)] at h
      exact ih _ _ (by unfold sp_lr2 at *; omega) h
theorem k2Range {w : Int} {Q : Int → sg_M → Prop} (hw : sp_wZ z) (H : sp_RM s z) (h : ∀ s', sp_FC s s' → sp_RM s' z → Q (aRange z w) s') : fX12_range s w Q := by
  obtain ⟨H0, h20, F0, -⟩ := sp_go H
  intro s1 h1
  rw [← h1] at H0 F0 h20
  have hlen := hw.2.2.1.2.2.2.2.2.2.1
  have l1 := sp_vq_len hw
  refine tX12_lay (tX12_isIn ?_)
  split
  · rename_i g
    refine ⟨fun _ => ?_, fun hh => absurd hh (by omega)⟩
    refine sp_si hw H0 (fun t hF HR r80 => ⟨(sp_vq (zN z)).length + 1, ?_⟩)
    have h := h t (fun c i q => by rw [hF c i (by omega) (by omega)]; exact F0 c i q) (sp_RM_of HR (by rw [hF 64 20 (by omega) (by omega)]; exact h20))
    refine sp_r2L HR r80 (by omega) l1 (fun x hx => (sp_vq_rg hw x hx).1) (sp_vq (zN z)) 0 (-1) (-1) (by omega) (by omega) r80 (fun x hx => hx) (Or.inl ⟨rfl, rfl⟩) ?_
    have hlr := sp_lh_rg (sp_vq (zN z)) (sp_vq (zN z)) 0 (-1) (-1) (by omega) (Or.inl ⟨rfl, rfl⟩)
    change sp_lr2 _ (sp_lo z) (sp_hi z) at hlr
    change (sp_lo z ≠ -1 → _) ∧ (sp_lo z = -1 → _)
    unfold aRange at h
    unfold sp_lr2 at hlr
    refine ⟨fun q => ⟨fun w0 => ⟨fun w1 => ⟨fun w2 => ?_, fun w2 => ?_⟩, fun w1 => ⟨?_, ?_⟩⟩, fun w0 => ⟨?_, ?_⟩⟩, fun q => ?_⟩
    · rw [if_neg w0, if_neg w1, if_neg w2, if_pos (by omega)] at h; exact h
    · rw [if_neg w0, if_neg w1, if_pos w2] at h; exact h
    · change 0 ≤ sp_hi z ∧ sp_hi z < 40; omega
    · rw [if_neg w0, if_pos w1, ← sp_at_in r80 (show 0 ≤ sp_hi z by omega) (by omega)] at h; exact h
    · change 0 ≤ sp_lo z ∧ sp_lo z < 40; omega
    · rw [if_pos w0, ← sp_at_in r80 (show 0 ≤ sp_lo z by omega) (by omega)] at h; exact h
    · have e2 : sp_hi z = -1 := by omega
      rw [q, e2, sp_at_out (Or.inl (by omega))] at h
      repeat' split at h
      all_goals exact h
  · rename_i g
    refine ⟨fun hh => absurd rfl hh, fun _ => ?_⟩
    have h := h _ F0 (sp_RM_of H0 h20)
    unfold aRange at h
    rw [if_neg (by omega), if_neg (by omega), if_neg (by omega), if_neg (by omega)] at h; exact h
/-! read -/
abbrev sp_nr (v t sl : Int) : Prop := 0 < v ∧ sg_abs (v - t) ≤ sl
def sp_fd (t sl : Int) : List Int → Int → List Int
  | [], _ => []
  | v :: l, k => if sp_nr v t sl then k :: sp_fd t sl l (k + 1) else sp_fd t sl l (k + 1)
theorem sp_fd_len (t sl : Int) : ∀ (l : List Int) (k : Int), (sp_fd t sl l k).length ≤ l.length
  | [], _ => by simp [sp_fd]
  | v :: l, k => by
    have := sp_fd_len t sl l (k + 1)
    unfold sp_fd; split <;> simp only [List.length_cons] <;> omega
def zD' (z : sp_Z) (D : List Int) : sp_Z := (zT z, zF z, zN z, zI z, zL z, zG z, zW z, zR z, D, zE z, zU z)
def aRead (z : sp_Z) (t sl : Int) : Int := if 1 ≤ t ∧ t ≤ 2000 ∧ 0 ≤ sl ∧ sl ≤ 200 then (sp_fd t sl (sp_vq (zN z)) 0).length else -1
def yRead (z : sp_Z) (t sl : Int) : sp_Z := if 1 ≤ t ∧ t ≤ 2000 ∧ 0 ≤ sl ∧ sl ≤ 200 then zD' z (sp_fd t sl (sp_vq (zN z)) 0) else z
theorem tX11_isNear {v t sl : Int} {Q : Int → Prop} (hv : -3000 ≤ v ∧ v ≤ 2000) (ht : 0 ≤ t ∧ t ≤ 70000) (h : Q (if sp_nr v t sl then 1 else 0)) : fX11_isNear v t sl Q := by
  refine ⟨fun g => ?_, fun g => ⟨by omega, ?_, fun g2 => ?_, fun g2 => ?_⟩⟩
  · rw [if_neg (fun hh => by have := hh.1; omega)] at h; exact h
  · unfold sg_abs; split <;> omega
  · rw [if_neg (fun hh => by have := hh.2; omega)] at h; exact h
  · rw [if_pos ⟨by omega, by omega⟩] at h; exact h
theorem tX12_size {x : Int} {Q : Int → Prop} (hx : -2000000000 ≤ x ∧ x ≤ 2000000000) (h : Q (sg_abs x)) : fX12_size x Q := by
  unfold sg_abs at h
  refine ⟨fun g => by rw [if_pos g] at h; exact h, fun g => ⟨by omega, ?_⟩⟩
  rw [if_neg g, Int.zero_sub] at h; exact h
theorem tX12_isNear {v t sl : Int} {Q : Int → Prop} (hv : -3000 ≤ v ∧ v ≤ 2000) (ht : 0 ≤ t ∧ t ≤ 70000) (h : Q (if sp_nr v t sl then 1 else 0)) : fX12_isNear v t sl Q := by
  refine ⟨fun g => ?_, fun g => ⟨by omega, tX12_size (by omega) ⟨fun g2 => ?_, fun g2 => ?_⟩⟩⟩
  · rw [if_neg (fun hh => by have := hh.1; omega)] at h; exact h
  · rw [if_neg (fun hh => by have := hh.2; omega)] at h; exact h
  · rw [if_pos ⟨by omega, by omega⟩] at h; exact h
theorem sp_RC_D {s' : sg_M} {D : List Int} (H : sp_RC La s z) (h89 : 89 ≤ La.1) (e : ∀ c i, c < 52 ∨ 53 < c → s' c i = s c i) (hD : sp_rw s' 52 D) : sp_RC La s' (zD' z D) := by
  rw [sp_RC_eq] at H ⊢
  obtain ⟨hT, hF, hN, hI, hL, hG, hW, hR, -, hE, hU, hQ, hK⟩ := H
  exact ⟨sp_kT hT (fun c i q => e c i (by omega)), by rw [e 0 16 (by omega)]; exact hF, sp_kN hN (sp_X_refl La) h89 (fun c i q => e c i (by omega)), sp_kI hI (sp_X_refl La) h89 (fun c i q => e c i (by omega)), sp_kL hL (fun i => e 37 i (by omega)),
    sp_kR hG (fun c i _ _ => e c i (by omega)), by rw [e 0 17 (by omega)]; exact hW, by rw [e 0 18 (by omega)]; exact hR, hD, sp_kR hE (fun c i _ _ => e c i (by omega)), sp_kR hU (fun c i _ _ => e c i (by omega)), sp_kQ hQ (fun c i _ _ => e c i (by omega)), sp_kK hK (fun c i _ _ => e c i (by omega))⟩
theorem sp_R0_D {t t' : sg_M} {D : List Int} (H : sp_R0 t z) (e : ∀ c i, (c = 64 → i ≠ 52) → c ≠ 84 → t' c i = t c i) (hD : t' 64 52 = D.length ∧ sg_ar (t' 84) 0 D) : sp_R0 t' (zD' z D) := by
  obtain ⟨hT, hF, hN, hI, hL, hG, hW, hR, -, hE, hU⟩ := H
  exact ⟨sp_m2 hT (e 64 2 (by omega) (by omega)) (fun i => e 65 i (by omega) (by omega)), by rw [e 64 10 (by omega) (by omega)]; exact hF, sp_mN0 hN (fun i => e 66 i (by omega) (by omega)),
    sp_mI0 hI (fun i => e 71 i (by omega) (by omega)) (fun i => e 68 i (by omega) (by omega)), fun w h1 h2 => by rw [e 77 w (by omega) (by omega)]; exact hL w h1 h2, sp_m2 hG (e 64 37 (by omega) (by omega)) (fun i => e 78 i (by omega) (by omega)), by rw [e 64 38 (by omega) (by omega)]; exact hW, by rw [e 64 56 (by omega) (by omega)]; exact hR,
    hD, sp_m2 hE (e 64 55 (by omega) (by omega)) (fun i => e 86 i (by omega) (by omega)), sp_m2 hU (e 64 50 (by omega) (by omega)) (fun i => e 83 i (by omega) (by omega))⟩
theorem sp_rd1L {V : List Int} {t sl : Int} {Q : Int → sg_M → Prop} (hst : sg_St La) (hr : sp_rw s 58 V) (hV : V.length ≤ 40) (ht : 0 ≤ t ∧ t ≤ 2000) (hVn : ∀ x, x ∈ V → 0 ≤ x ∧ x ≤ 2000)
    (h : ∀ u : sg_M, (∀ c i, c < 52 ∨ 53 < c → u c i = s c i) → sp_rw u 52 (sp_fd t sl V 0) → Q (sp_fd t sl V 0).length u) :
    ∀ (l : List Int) (k : Int) (P : List Int) (u : sg_M), 0 ≤ k → k + l.length = V.length → sg_ar (s 59) k l → (P.length : Int) ≤ k → (∀ c i, c < 52 ∨ 53 < c → u c i = s c i) → sp_rw u 52 P → P ++ sp_fd t sl l k = sp_fd t sl V 0 → fX11_read_L29 La t sl Q (l.length + 1) u k
  | [], k, P, u, h0, hk, hl, hP, hF, hu, he => by
    simp only [List.length_nil] at hk
    rw [List.length_nil, fX11_read_L29]
    rw [sp_fd, List.append_nil] at he
    rw [← he] at h
    refine ⟨fun _ => by rw [hu.1]; exact h u hF hu, fun hh => absurd (show u 58 1 ≤ k by rw [hF 58 1 (by omega), hr.1]; omega) hh⟩
  | v :: l, k, P, u, h0, hk, hl, hP, hF, hu, he => by
    simp only [List.length_cons] at hk
    have ih := fun P' u' q1 q2 q3 => sp_rd1L (Q := Q) hst hr hV ht hVn h l (k + 1) P' u' (by omega) (by omega) hl.2 q1 q2 q3
    have hu1 := hu.1
    rw [sp_fd] at he
    rw [List.length_cons, fX11_read_L29]
    simp only [fX11_read_j64]
    refine ⟨fun hh => absurd hh (by rw [hF 58 1 (by omega), hr.1]; omega), fun _ => ?_⟩
    refine tX4_at (l := V) (c := 40) (sp_ln hst 59 10040 rfl) (by omega) (by rw [hF 58 1 (by omega)]; exact hr.1) (by omega) (sg_ar_congr _ 0 (fun i _ _ => (hF _ i (by omega)).symm) hr.2) ?_
    have ev : sp_at V k = v := by rw [← sp_at_in hr.2 h0 (by omega)]; exact hl.1
    have hvr := hVn (sp_at V k) (sp_at_mem h0 (by omega))
    rw [ev] at hvr ⊢
    refine tX11_isNear (by omega) (by omega) ?_
    split
    · rename_i g
      rw [if_pos g] at he
      refine ⟨fun hh => absurd hh (by omega), fun _ => tX4_add (c := 40) (sp_ln hst 53 10040 rfl) (by omega) (by omega) (by omega) ⟨by omega, ?_⟩⟩
      refine ih (P ++ [k]) _ (by simp only [List.length_append, List.length_cons, List.length_nil]; omega) (fun c i q => ?_) (sp_rw_snoc hu) (by rw [List.append_assoc]; exact he)
      rw [sg_upN _ (by omega), sg_upN _ (by omega)]; exact hF c i q
    · rename_i g
      rw [if_neg g] at he
      exact ⟨fun _ => ⟨by omega, ih P u (by omega) hF hu he⟩, fun hh => absurd rfl hh⟩
theorem tX11_in {a b x : Int} {Q : Int → Prop} (h : Q (if a ≤ x ∧ x ≤ b then 1 else 0)) : ((x < a → Q 0) ∧ (¬ (x < a) → ((b < x → Q 0) ∧ (¬ (b < x) → Q 1)))) := by
  refine ⟨fun g => ?_, fun g => ⟨fun g2 => ?_, fun g2 => ?_⟩⟩
  · rw [if_neg (by omega)] at h; exact h
  · rw [if_neg (by omega)] at h; exact h
  · rw [if_pos (by omega)] at h; exact h
theorem tX11_isTone {x : Int} {Q : Int → Prop} (h : Q (if 1 ≤ x ∧ x ≤ 2000 then 1 else 0)) : fX11_isTone x Q := tX11_in h
theorem tX11_isSlip {x : Int} {Q : Int → Prop} (h : Q (if 0 ≤ x ∧ x ≤ 200 then 1 else 0)) : fX11_isSlip x Q := tX11_in h
theorem k1Read {t sl : Int} {Q : Int → sg_M → Prop} (hst : sg_St La) (h89 : 89 ≤ La.1) (hw : sp_wZ z) (H : sp_RC La s z) (h : ∀ s', sp_FM s s' → sp_RC La s' (yRead z t sl) → Q (aRead z t sl) s') : fX11_read La s t sl Q := by
  have hlen := hw.2.2.1.2.2.2.2.2.2.1
  have l1 := sp_vq_len hw
  have no : ¬ (1 ≤ t ∧ t ≤ 2000 ∧ 0 ≤ sl ∧ sl ≤ 200) → Q (-1) s := fun e => by
    unfold aRead yRead at h; rw [if_neg e, if_neg e] at h; exact h s (fun _ _ _ _ => rfl) H
  refine tX11_isTone ?_
  split
  · rename_i g
    refine ⟨fun hh => absurd hh (by omega), fun _ => tX11_isSlip ?_⟩
    split
    · rename_i g2
      have e : 1 ≤ t ∧ t ≤ 2000 ∧ 0 ≤ sl ∧ sl ≤ 200 := ⟨g.1, g.2, g2.1, g2.2⟩
      unfold aRead yRead at h
      rw [if_pos e, if_pos e] at h
      refine ⟨fun _ => sp_hb hst h89 hw H (fun u hF HR rV rU => tX4_clear ⟨(sp_vq (zN z)).length + 1, ?_⟩), fun hh => absurd hh (by omega)⟩
      have hFM : ∀ u' : sg_M, (∀ c i, c < 52 ∨ 53 < c → u' c i = sg_up u 52 1 0 c i) → ∀ c i, c < 52 ∨ 53 < c → u' c i = u c i := fun u' e' c i q => by rw [e' c i q, sg_upN _ (by omega)]
      refine sp_rd1L (s := sg_up u 52 1 0) (V := sp_vq (zN z)) hst (sp_rw_same rV (sg_upN _ (by omega)) (fun i => sg_upN _ (by omega))) (by omega) (by omega) (fun x hx => sp_vq_rg hw x hx) (fun u' hF' hu' => ?_) (sp_vq (zN z)) 0 [] _ (by omega) (by omega) ?_ (by simp) (fun _ _ _ => rfl) (sp_rw_nil _ _) rfl
      · have f := hFM u' hF'
        exact h u' (fun c i q1 q2 => by rw [f c i (by omega), hF c i (by omega)]) (sp_RC_D HR h89 f hu')
      · exact sg_ar_congr _ 0 (fun i _ _ => (sg_upN _ (by omega)).symm) rV.2
    · rename_i g2
      exact ⟨fun hh => absurd rfl hh, fun _ => no (by omega)⟩
  · rename_i g
    exact ⟨fun _ => no (by omega), fun hh => absurd rfl hh⟩
theorem sp_rd2L {V : List Int} {t sl : Int} {Q : Int → sg_M → Prop} {s0 : sg_M} (HR : sp_R0 s0 z) (hr : sg_ar (s0 80) 0 V) (hV : V.length ≤ 40) (hVm : V.length = (nKa (zN z)).length) (ht : 0 ≤ t ∧ t ≤ 2000) (hVn : ∀ x, x ∈ V → 0 ≤ x ∧ x ≤ 2000)
    (h : ∀ u : sg_M, (∀ c i, (c = 64 → i ≠ 52) → c ≠ 84 → u c i = s0 c i) → (u 64 52 = (sp_fd t sl V 0).length ∧ sg_ar (u 84) 0 (sp_fd t sl V 0)) → Q (sp_fd t sl V 0).length u) :
    ∀ (l : List Int) (k : Int) (P : List Int) (u : sg_M), 0 ≤ k → k + l.length = V.length → sg_ar (s0 80) k l → (∀ x, x ∈ l → x ∈ V) → (P.length : Int) ≤ k → (∀ c i, (c = 64 → i ≠ 52) → c ≠ 84 → u c i = s0 c i) → (u 64 52 = P.length ∧ sg_ar (u 84) 0 P) → P ++ sp_fd t sl l k = sp_fd t sl V 0 → fX12_read_L44 t sl Q (l.length + 1) u k
  | [], k, P, u, h0, hk, hl, hm, hP, hF, hu, he => by
    simp only [List.length_nil] at hk
    rw [List.length_nil, fX12_read_L44]
    unfold fX12_bends
    rw [sp_fd, List.append_nil] at he
    rw [← he] at h
    refine ⟨fun _ => by rw [hu.1]; exact h u hF hu, fun hh => absurd (show u 66 1701 ≤ k by rw [hF 66 1701 (by omega) (by omega), HR.2.2.1.2.2.2.1.1]; omega) hh⟩
  | v :: l, k, P, u, h0, hk, hl, hm, hP, hF, hu, he => by
    simp only [List.length_cons] at hk
    have ih := fun P' u' q1 q2 q3 => sp_rd2L (Q := Q) HR hr hV hVm ht hVn h l (k + 1) P' u' (by omega) (by omega) hl.2 (fun x hx => hm x (List.mem_cons_of_mem _ hx)) q1 q2 q3
    have hu1 := hu.1
    have hvr := hVn v (hm v List.mem_cons_self)
    rw [sp_fd] at he
    rw [List.length_cons, fX12_read_L44]
    unfold fX12_bends
    simp only [fX12_read_j90]
    have ev : u 80 k = v := by rw [hF 80 k (by omega) (by omega)]; exact hl.1
    rw [ev]
    refine ⟨fun hh => absurd hh (by rw [hF 66 1701 (by omega) (by omega), HR.2.2.1.2.2.2.1.1]; omega), fun _ => ⟨by omega, tX12_isNear (by omega) (by omega) ?_⟩⟩
    split
    · rename_i g
      rw [if_pos g] at he
      refine ⟨fun _ => ⟨by omega, fun s27 h27 => ?_⟩, fun hh => absurd hh (by omega)⟩
      have e52 : s27 64 52 = u 64 52 := by rw [h27, sg_upN _ (by omega)]
      rw [e52]
      refine ⟨by omega, fun s31 h31 => ⟨by omega, ?_⟩⟩
      refine ih (P ++ [k]) s31 (by simp only [List.length_append, List.length_cons, List.length_nil]; omega) (fun c i q1 q2 => ?_) ⟨?_, sg_ar_snoc _ 0 (sg_ar_congr _ 0 (fun i q1 q2 => ?_) hu.2) ?_⟩ (by rw [List.append_assoc]; exact he)
      · rw [h31, sg_upN _ (by omega), h27, sg_upN _ (by omega)]; exact hF c i q1 q2
      · rw [h31, sg_upS, hu1]; simp
      · rw [h31, sg_upN _ (by omega), h27, sg_upN _ (by omega)]
      · rw [h31, sg_upN _ (by omega), h27, hu1, Int.zero_add, sg_upS]
    · rename_i g
      rw [if_neg g] at he
      exact ⟨fun hh => absurd rfl hh, fun _ => ⟨by omega, ih P u (by omega) hF hu he⟩⟩
theorem k2Read {t sl : Int} {Q : Int → sg_M → Prop} (hw : sp_wZ z) (H : sp_RM s z) (h : ∀ s', sp_FC s s' → sp_RM s' (yRead z t sl) → Q (aRead z t sl) s') : fX12_read s t sl Q := by
  obtain ⟨H0, h20, F0, -⟩ := sp_go H
  intro s1 h1
  rw [← h1] at H0 F0 h20
  have hlen := hw.2.2.1.2.2.2.2.2.2.1
  have l1 := sp_vq_len hw
  have no : ¬ (1 ≤ t ∧ t ≤ 2000 ∧ 0 ≤ sl ∧ sl ≤ 200) → Q (-1) (sp_ly s1) := fun e => by
    unfold aRead yRead at h; rw [if_neg e, if_neg e] at h; exact h _ F0 (sp_RM_of H0 h20)
  refine tX12_lay (tX12_isIn ?_)
  split
  · rename_i g
    refine ⟨fun hh => absurd hh (by omega), fun _ => tX12_isIn ?_⟩
    split
    · rename_i g2
      have e : 1 ≤ t ∧ t ≤ 2000 ∧ 0 ≤ sl ∧ sl ≤ 200 := ⟨g.1, g.2, g2.1, g2.2⟩
      unfold aRead yRead at h
      rw [if_pos e, if_pos e] at h
      refine ⟨fun _ => sp_si hw H0 (fun u hF HR r80 s11 h11 => ⟨(sp_vq (zN z)).length + 1, ?_⟩), fun hh => absurd hh (by omega)⟩
      have e11 : ∀ c i, (c = 64 → i ≠ 52) → c ≠ 84 → s11 c i = u c i := fun c i q _ => by rw [h11, sg_upN _ (by omega)]
      refine sp_rd2L (s0 := u) HR r80 (by omega) l1 (by omega) (fun x hx => sp_vq_rg hw x hx) (fun u' hF' hu' => ?_) (sp_vq (zN z)) 0 [] s11 (by omega) (by omega) r80 (fun x hx => hx) (by simp) e11 ⟨by rw [h11, sg_upS]; rfl, trivial⟩ rfl
      refine h u' (fun c i q => by rw [hF' c i (by omega) (by omega), hF c i (by omega) (by omega)]; exact F0 c i q) (sp_RM_of (sp_R0_D HR hF' hu') ?_)
      rw [hF' 64 20 (by omega) (by omega), hF 64 20 (by omega) (by omega)]; exact h20
    · rename_i g2
      exact ⟨fun hh => absurd rfl hh, fun _ => no (by omega)⟩
  · rename_i g
    exact ⟨fun _ => no (by omega), fun hh => absurd rfl hh⟩
theorem wRead {t sl : Int} (hw : sp_wZ z) : sp_wZ (yRead z t sl) := by
  unfold yRead; split
  · have l1 := sp_vq_len hw
    have l2 := sp_fd_len t sl (sp_vq (zN z)) 0
    obtain ⟨h1, h2, h3, h4, h5, h6, h7, h8⟩ := hw
    have := h3.2.2.2.2.2.2.1
    exact ⟨h1, h2, h3, h4, h5, show (sp_fd t sl (sp_vq (zN z)) 0).length ≤ 40 by omega, h7, h8⟩
  · exact hw
end SGK6
