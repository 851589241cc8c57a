/-! LEVEL 2: even. -/
noncomputable section SGKe
variable {La : sg_L} {s : sg_M} {z : sp_Z}
/-- a step of the way from a to c -/
def sp_ge (a c p n : Int) : Int := a + Int.tdiv ((c - a) * p) n
theorem sp_ge_rg {a c p n : Int} (h0 : 0 ≤ p) (h1 : p ≤ n) (hn : 0 < n) : (a ≤ c → a ≤ sp_ge a c p n ∧ sp_ge a c p n ≤ c) ∧ (c ≤ a → c ≤ sp_ge a c p n ∧ sp_ge a c p n ≤ a) := by
  unfold sp_ge
  refine ⟨fun h => ?_, fun h => ?_⟩
  · have e1 : 0 ≤ (c - a) * p := Int.mul_nonneg (by omega) h0
    have e2 : (c - a) * p ≤ (c - a) * n := Int.mul_le_mul_of_nonneg_left h1 (by omega)
    rw [Int.tdiv_eq_ediv_of_nonneg e1]
    have e3 := Int.ediv_le_of_le_mul hn e2
    have e4 : 0 ≤ (c - a) * p / n := Int.ediv_nonneg e1 (by omega)
    omega
  · have e1 : 0 ≤ (a - c) * p := Int.mul_nonneg (by omega) h0
    have e2 : (a - c) * p ≤ (a - c) * n := Int.mul_le_mul_of_nonneg_left h1 (by omega)
    have en : (c - a) * p = -((a - c) * p) := by rw [← Int.neg_mul]; congr 1; omega
    rw [en, Int.neg_tdiv, Int.tdiv_eq_ediv_of_nonneg e1]
    have e3 := Int.ediv_le_of_le_mul hn e2
    have e4 : 0 ≤ (a - c) * p / n := Int.ediv_nonneg e1 (by omega)
    omega
theorem sp_ge_0 (a c n : Int) : sp_ge a c 0 n = a := by unfold sp_ge; rw [Int.mul_zero, Int.zero_tdiv]; omega
theorem sp_ge_n {a c n : Int} (hn : 0 < n) : sp_ge a c n n = c := by unfold sp_ge; rw [Int.mul_tdiv_cancel _ (by omega)]; omega
theorem sp_ge_bd {a c p n : Int} (ha : -9999 ≤ a ∧ a ≤ 9999) (hc : -9999 ≤ c ∧ c ≤ 9999) (h0 : 0 ≤ p) (h1 : p ≤ n) (hn : 0 < n) : -9999 ≤ sp_ge a c p n ∧ sp_ge a c p n ≤ 9999 := by
  have h := sp_ge_rg (a := a) (c := c) h0 h1 hn
  rcases Int.le_total a c with q | q
  · have := h.1 q; omega
  · have := h.2 q; omega
theorem sp_ge_mu {a c p : Int} (ha : -9999 ≤ a ∧ a ≤ 9999) (hc : -9999 ≤ c ∧ c ≤ 9999) (h0 : 0 ≤ p) (h1 : p ≤ 100) : -2147483648 ≤ (c - a) * p ∧ (c - a) * p ≤ 2147483647 := by
  have := sp_mu (a := c - a) (x := p) (c := 19998) h0 (by omega) (by omega)
  omega
def sp_pv (z : sp_Z) (j k p : Int) : Int := sp_tv z (sp_ge (sp_at (nKa (zN z)) j) (sp_at (nKa (zN z)) k) p 100) (sp_ge (sp_at (nKb (zN z)) j) (sp_at (nKb (zN z)) k) p 100)
def sp_pp (z : sp_Z) (j k : Int) : Nat → List Int
  | 0 => []
  | m + 1 => sp_pp z j k m ++ [sp_pv z j k m]
theorem sp_pp_len (z : sp_Z) (j k : Int) : ∀ m : Nat, (sp_pp z j k m).length = m
  | 0 => rfl
  | m + 1 => by rw [sp_pp, List.length_append, sp_pp_len z j k m]; rfl
theorem sp_snoc_at {g : Nat → List Int} {f : Int → Int} (hg : ∀ m, g (m + 1) = g m ++ [f m]) (h0 : g 0 = []) : ∀ (m : Nat) (i : Int), (g m).length = m ∧ (0 ≤ i → i < m → sp_at (g m) i = f i)
  | 0, i => by rw [h0]; exact ⟨rfl, fun q1 q2 => by omega⟩
  | m + 1, i => by
    have ih := sp_snoc_at hg h0 m
    refine ⟨by rw [hg, List.length_append, (ih 0).1]; rfl, fun q1 q2 => ?_⟩
    have hl := (ih 0).1
    unfold sp_at
    rw [if_neg (by omega), hg, List.getD_eq_getElem?_getD]
    by_cases hi : i < m
    · have := (ih i).2 q1 hi
      unfold sp_at at this
      rw [if_neg (by omega), List.getD_eq_getElem?_getD] at this
      rw [List.getElem?_append_left (by omega)]; exact this
    · have e : i = m := by omega
      rw [e, List.getElem?_append_right (by omega), hl, show ((m : Int).toNat - m) = 0 by omega]; rfl
theorem sp_pp_at (z : sp_Z) (j k : Int) (m : Nat) {i : Int} (h0 : 0 ≤ i) (h1 : i < m) : sp_at (sp_pp z j k m) i = sp_pv z j k i := (sp_snoc_at (fun _ => rfl) rfl m i).2 h0 h1
theorem sp_pv_rg (hw : sp_wZ z) (j k p : Int) : 0 ≤ sp_pv z j k p ∧ sp_pv z j k p ≤ 2000 := (sp_vo_rg hw.2.2.1.1 _ _).1
theorem sp_pp_rg (hw : sp_wZ z) (j k : Int) : ∀ (m : Nat) (x : Int), x ∈ sp_pp z j k m → 0 ≤ x ∧ x ≤ 2000
  | 0, x, hx => by simp [sp_pp] at hx
  | m + 1, x, hx => by
    rw [sp_pp] at hx
    rcases List.mem_append.mp hx with hx | hx
    · exact sp_pp_rg hw j k m x hx
    · rw [List.mem_singleton.mp hx]; exact sp_pv_rg hw j k m
/-- all parts; sealed, for the number is large -/
def sp_q (z : sp_Z) (j k : Int) : List Int := Classical.choose (⟨sp_pp z j k 101, rfl⟩ : ∃ l : List Int, l = sp_pp z j k 101)
theorem sp_q_is (z : sp_Z) (j k : Int) : sp_q z j k = sp_pp z j k 101 := Classical.choose_spec (⟨sp_pp z j k 101, rfl⟩ : ∃ l : List Int, l = sp_pp z j k 101)
theorem sp_q_len (z : sp_Z) (j k : Int) : (sp_q z j k).length = 101 := by rw [sp_q_is]; exact sp_pp_len z j k 101
theorem sp_q_at (z : sp_Z) (j k : Int) {i : Int} (h0 : 0 ≤ i) (h1 : i < 101) : sp_at (sp_q z j k) i = sp_pv z j k i := by rw [sp_q_is]; exact sp_pp_at z j k 101 h0 (by omega)
theorem sp_q_rg (hw : sp_wZ z) (j k : Int) (x : Int) (hx : x ∈ sp_q z j k) : 0 ≤ x ∧ x ≤ 2000 := by rw [sp_q_is] at hx; exact sp_pp_rg hw j k 101 x hx
theorem sp_hpL {j k : Int} {Q : sg_M → Prop} (hst : sg_St La) (h89 : 89 ≤ La.1) (hw : sp_wZ z) (H : sp_RC La s z) (hj : 0 ≤ j ∧ j < (nKa (zN z)).length) (hk : 0 ≤ k ∧ k < (nKa (zN z)).length)
    (hQ : ∀ t, (∀ c i, c < 32 ∨ (36 < c ∧ c < 56) ∨ 57 < c → t c i = s c i) → sp_rw t 56 (sp_q z j k) → Q t) :
    ∀ (r m : Nat) (t : sg_M), m + r = 101 → (∀ c i, c < 32 ∨ (36 < c ∧ c < 56) ∨ 57 < c → t c i = s c i) → sp_rw t 56 (sp_pp z j k m) → fX11_hearParts_L78 La (sp_at (nKa (zN z)) j) (sp_at (nKb (zN z)) j) (sp_at (nKa (zN z)) k) (sp_at (nKb (zN z)) k) Q (r + 1) t m
  | 0, m, t, hm, hF, hr => by
    rw [fX11_hearParts_L78]
    have e : m = 101 := by omega
    rw [e] at hr ⊢
    rw [← sp_q_is] at hr
    exact ⟨fun _ => hQ t hF hr, fun hh => absurd (show (100 : Int) < ((101 : Nat) : Int) by omega) hh⟩
  | r + 1, m, t, hm, hF, hr => by
    have hl2 := hw.2.2.1.2.2.2.2.2.1
    have a1 := sp_bd_at hw.2.2.1.2.2.2.2.2.2.2.1 hj.1 hj.2
    have a2 := sp_bd_at hw.2.2.1.2.2.2.2.2.2.2.1 hk.1 hk.2
    have b1 := sp_bd_at hw.2.2.1.2.2.2.2.2.2.2.2.1 hj.1 (by omega)
    have b2 := sp_bd_at hw.2.2.1.2.2.2.2.2.2.2.2.1 hk.1 (by omega)
    have HR : sp_RC La t z := sp_RC_same H (sp_X_refl La) h89 (fun c i hr => hF c i (by unfold sp_rdc at hr; omega))
    have hr1 := hr.1
    rw [sp_pp_len] at hr1
    rw [fX11_hearParts_L78]
    have k1 := sp_cv (La := La) (s := t) (z := z) (a := sp_ge (sp_at (nKa (zN z)) j) (sp_at (nKa (zN z)) k) m 100) (b := sp_ge (sp_at (nKb (zN z)) j) (sp_at (nKb (zN z)) k) m 100)
      (Q := fun s32 => fX4_add La s32 56 (s32 32 7) (fun s36 => sg_R ((m : Int) + 1) ∧ fX11_hearParts_L78 La (sp_at (nKa (zN z)) j) (sp_at (nKb (zN z)) j) (sp_at (nKa (zN z)) k) (sp_at (nKb (zN z)) k) Q (r + 1) s36 ((m : Int) + 1)))
      hst h89 hw HR (sp_ge_bd a1 a2 (by omega) (by omega) (by omega)) (sp_ge_bd b1 b2 (by omega) (by omega) (by omega)) (fun u hFu HRu hbt hvc => ?_)
    · have g1 := sp_ge_bd a1 a2 (p := m) (n := 100) (by omega) (by omega) (by omega)
      have g2 := sp_ge_bd b1 b2 (p := m) (n := 100) (by omega) (by omega) (by omega)
      refine ⟨fun hh => absurd hh (by omega), fun _ => ⟨sp_ge_mu a1 a2 (by omega) (by omega), sp_ge_mu b1 b2 (by omega) (by omega), k1.1, ?_, ?_, k1.2⟩⟩
      · change sg_R (sp_ge (sp_at (nKa (zN z)) j) (sp_at (nKa (zN z)) k) m 100); omega
      · change sg_R (sp_ge (sp_at (nKb (zN z)) j) (sp_at (nKb (zN z)) k) m 100); omega
    · have f2 : ∀ c i, c < 32 ∨ 36 < c → u c i = t c i := fun c i q => hFu c i (by omega) (by omega)
      have ru : sp_rw u 56 (sp_pp z j k m) := sp_kR hr (fun c i q1 q2 => f2 c i (by omega))
      have ru1 := ru.1
      rw [sp_pp_len] at ru1
      rw [hvc.1]
      refine tX4_add (c := 101) (sp_ln hst 57 10101 rfl) (by omega) (by omega) (by omega) ⟨by omega, ?_⟩
      have ih := sp_hpL hst h89 hw H hj hk hQ r (m + 1) (sg_up (sg_up u (56 + 1) (u 56 1) (sp_vo (nB (zN z)) (sp_ge (sp_at (nKa (zN z)) j) (sp_at (nKa (zN z)) k) m 100) (sp_ge (sp_at (nKb (zN z)) j) (sp_at (nKb (zN z)) k) m 100)).1) 56 1 (u 56 1 + 1)) (by omega) (fun c i q => ?_) ?_
      · rw [show ((m + 1 : Nat) : Int) = (m : Int) + 1 by omega] at ih; exact ih
      · rw [sg_upN _ (by omega), sg_upN _ (by omega), f2 c i (by omega)]; exact hF c i q
      · rw [sp_pp]; exact sp_rw_snoc ru
/-- the nearest part to a goal -/
def sp_nn (g : Int) : List Int → Int → Int → Int → Int
  | [], _, near, _ => near
  | v :: l, k, near, least => if v ≤ 0 then sp_nn g l (k + 1) near least else if least ≤ sg_abs (v - g) then sp_nn g l (k + 1) near least else sp_nn g l (k + 1) k (sg_abs (v - g))
theorem sp_nn_rg (g : Int) : ∀ (l : List Int) (k near least : Int), 0 ≤ near → near ≤ k → 0 ≤ k → 0 ≤ sp_nn g l k near least ∧ sp_nn g l k near least ≤ k + l.length
  | [], k, near, least, h0, h1, h2 => by simp only [sp_nn, List.length_nil]; omega
  | v :: l, k, near, least, h0, h1, h2 => by
    have i1 := fun near' least' q1 q2 => sp_nn_rg g l (k + 1) near' least' q1 q2 (by omega)
    simp only [List.length_cons]
    rw [sp_nn]
    split
    · have := i1 near least h0 (by omega); omega
    · split
      · have := i1 near least h0 (by omega); omega
      · have := i1 k (sg_abs (v - g)) h2 (by omega); omega
theorem sp_npL {g : Int} {P : List Int} {Q : Int → Prop} (hst : sg_St La) (hr : sp_rw s 56 P) (hP : P.length ≤ 101) (hg : 0 ≤ g ∧ g ≤ 2000) (hPr : ∀ x, x ∈ P → 0 ≤ x ∧ x ≤ 2000) : ∀ (l : List Int) (k near least : Int), 0 ≤ k → k + l.length = P.length → sg_ar (s (56 + 1)) k l → (∀ x, x ∈ l → x ∈ P) → Q (sp_nn g l k near least) → fX11_nearestPart_L9 La s g Q (l.length + 1) near least k
  | [], k, near, least, h0, hk, hl, hm, h => by
    simp only [List.length_nil] at hk
    rw [List.length_nil, fX11_nearestPart_L9]
    exact ⟨fun _ => h, fun hh => absurd (show s 56 1 ≤ k by rw [hr.1]; omega) hh⟩
  | v :: l, k, near, least, h0, hk, hl, hm, h => by
    simp only [List.length_cons] at hk
    have hv := hPr v (hm v List.mem_cons_self)
    have ih := fun near' least' => sp_npL (Q := Q) hst hr hP hg hPr l (k + 1) near' least' (by omega) (by omega) hl.2 (fun x hx => hm x (List.mem_cons_of_mem _ hx))
    rw [sp_nn] at h
    rw [List.length_cons, fX11_nearestPart_L9]
    simp only [fX11_nearestPart_j58]
    refine ⟨fun hh => absurd hh (by rw [hr.1]; omega), fun _ => ?_⟩
    refine tX4_at (c := 101) (sp_ln hst 57 10101 rfl) (by omega) hr.1 (by omega) hr.2 ?_
    have ev : sp_at P k = v := by rw [← sp_at_in hr.2 h0 (by omega)]; exact hl.1
    rw [ev]
    have hab : 0 ≤ sg_abs (v - g) ∧ sg_abs (v - g) ≤ 2000 := by unfold sg_abs; split <;> omega
    refine ⟨by omega, fun q => ⟨by omega, ?_⟩, fun q => ⟨by omega, fun q2 => ⟨by omega, ?_⟩, fun q2 => ⟨by omega, ?_⟩⟩⟩
    · rw [if_pos q] at h; exact ih _ _ h
    · rw [if_neg q, if_pos q2] at h; exact ih _ _ h
    · rw [if_neg q, if_neg q2] at h; exact ih _ _ h
/-- the part that is played at step i -/
def sp_ei (z : sp_Z) (j k n i : Int) : Int := sp_nn (sp_ge (sp_at (sp_vq (zN z)) j) (sp_at (sp_vq (zN z)) k) i n) (sp_q z j k) 0 0 4000
def sp_es (z : sp_Z) (j k n : Int) : Nat → List Int
  | 0 => []
  | m + 1 => sp_es z j k n m ++ [sp_ei z j k n m]
def sp_ew (z : sp_Z) (j k n : Int) : Nat → Int
  | 0 => 0
  | m + 1 => if m = 0 then 0 else sg_max (sp_ew z j k n m) (sg_abs (sp_ei z j k n m - sp_ei z j k n ((m : Int) - 1)))
theorem sp_es_at (z : sp_Z) (j k n : Int) (m : Nat) (i : Int) : (sp_es z j k n m).length = m ∧ (0 ≤ i → i < m → sp_at (sp_es z j k n m) i = sp_ei z j k n i) := sp_snoc_at (fun _ => rfl) rfl m i
theorem sp_ei_rg (z : sp_Z) (j k n i : Int) : 0 ≤ sp_ei z j k n i ∧ sp_ei z j k n i ≤ 101 := by
  have := sp_nn_rg (sp_ge (sp_at (sp_vq (zN z)) j) (sp_at (sp_vq (zN z)) k) i n) (sp_q z j k) 0 0 4000 (by omega) (by omega) (by omega)
  rw [sp_q_len] at this
  unfold sp_ei; omega
theorem sp_ew_rg (z : sp_Z) (j k n : Int) : ∀ m : Nat, 0 ≤ sp_ew z j k n m ∧ sp_ew z j k n m ≤ 101
  | 0 => by simp [sp_ew]
  | m + 1 => by
    have h := sp_ew_rg z j k n m
    have h1 := sp_ei_rg z j k n m
    have h2 := sp_ei_rg z j k n ((m : Int) - 1)
    unfold sp_ew sg_max sg_abs; repeat' split
    all_goals omega
abbrev sp_ec (z : sp_Z) (j k n : Int) : Prop := 1 ≤ n ∧ n ≤ 20 ∧ 1 ≤ sp_at (sp_vq (zN z)) j ∧ 1 ≤ sp_at (sp_vq (zN z)) k
def zE' (z : sp_Z) (E : List Int) : sp_Z := (zT z, zF z, zN z, zI z, zL z, zG z, zW z, zR z, zD z, E, zU z)
def aEven (z : sp_Z) (j k n : Int) : Int := if sp_ec z j k n then sp_ew z j k n (n.toNat + 1) else -1
def yEven (z : sp_Z) (j k n : Int) : sp_Z := if sp_ec z j k n then zE' z (sp_es z j k n (n.toNat + 1)) else z
theorem sp_at_pos {l : List Int} {i : Int} (h : 1 ≤ sp_at l i) : 0 ≤ i ∧ i < l.length := by
  refine ⟨?_, ?_⟩
  · rcases Int.lt_or_le i 0 with q | q
    · rw [sp_at_out (Or.inl q)] at h; omega
    · exact q
  · rcases Int.lt_or_le i l.length with q | q
    · exact q
    · rw [sp_at_out (Or.inr q)] at h; omega
theorem sp_evL {j k n : Int} {Q : Int → sg_M → Prop} (hst : sg_St La) (hw : sp_wZ z) (hc : sp_ec z j k n) (hr : sp_rw s 56 (sp_q z j k))
    (hQ : ∀ t, (∀ c i, c < 54 ∨ 55 < c → t c i = s c i) → sp_rw t 54 (sp_es z j k n (n.toNat + 1)) → Q (sp_ew z j k n (n.toNat + 1)) t) :
    ∀ (r m : Nat) (t : sg_M), m + r = n.toNat + 1 → (∀ c i, c < 54 ∨ 55 < c → t c i = s c i) → sp_rw t 54 (sp_es z j k n m) → fX11_even_L70 La n (sp_at (sp_vq (zN z)) j) (sp_at (sp_vq (zN z)) k) Q (r + 1) t (sp_ew z j k n m) m
  | 0, m, t, hm, hF, he => by
    rw [fX11_even_L70]
    have e : m = n.toNat + 1 := by omega
    rw [← e] at hQ
    exact ⟨fun _ => hQ t hF he, fun hh => absurd (show n < m by omega) hh⟩
  | r + 1, m, t, hm, hF, he => by
    have v1 := sp_vq_rg hw _ (sp_at_mem (sp_at_pos hc.2.2.1).1 (sp_at_pos hc.2.2.1).2)
    have v2 := sp_vq_rg hw _ (sp_at_mem (sp_at_pos hc.2.2.2).1 (sp_at_pos hc.2.2.2).2)
    have hg := sp_ge_rg (a := sp_at (sp_vq (zN z)) j) (c := sp_at (sp_vq (zN z)) k) (p := m) (n := n) (by omega) (by omega) (by omega)
    have hmu := sp_mu (a := sp_at (sp_vq (zN z)) k - sp_at (sp_vq (zN z)) j) (x := m) (c := 2000) (by omega) (by omega) (by omega)
    have hgr : 0 ≤ sp_ge (sp_at (sp_vq (zN z)) j) (sp_at (sp_vq (zN z)) k) m n ∧ sp_ge (sp_at (sp_vq (zN z)) j) (sp_at (sp_vq (zN z)) k) m n ≤ 2000 := by
      rcases Int.le_total (sp_at (sp_vq (zN z)) j) (sp_at (sp_vq (zN z)) k) with q | q
      · have := hg.1 q; omega
      · have := hg.2 q; omega
    have he1 := he.1
    rw [(sp_es_at z j k n m 0).1] at he1
    have hrt : sp_rw t 56 (sp_q z j k) := sp_kR hr (fun c i q1 q2 => hF c i (by omega))
    rw [fX11_even_L70]
    simp only [fX11_even_j136]
    refine ⟨fun hh => absurd hh (by omega), fun _ => ⟨by omega, by omega, ?_, ?_⟩⟩
    · change sg_R (sp_ge (sp_at (sp_vq (zN z)) j) (sp_at (sp_vq (zN z)) k) m n); omega
    · have np : ∀ Q' : Int → Prop, Q' (sp_ei z j k n m) → fX11_nearestPart La t (sp_ge (sp_at (sp_vq (zN z)) j) (sp_at (sp_vq (zN z)) k) m n) Q' := by
        intro Q' hq
        unfold sp_ei at hq
        have hlenP := sp_q_len z j k
        have hmem := sp_q_rg hw j k
        revert hq hrt hlenP hmem
        generalize sp_q z j k = P
        intro hrt hq hlenP hmem
        exact ⟨P.length + 1, sp_npL hst hrt (by omega) hgr hmem P 0 0 4000 (by omega) (by omega) hrt.2 (fun x hx => hx) hq⟩
      refine np _ ?_
      · refine tX4_add (c := 21) (sp_ln hst 55 10021 rfl) (by omega) (by omega) (by omega) ?_
        have re : sp_rw (sg_up (sg_up t (54 + 1) (t 54 1) (sp_ei z j k n m)) 54 1 (t 54 1 + 1)) 54 (sp_es z j k n (m + 1)) := by rw [sp_es]; exact sp_rw_snoc he
        have fe : ∀ c i, c < 54 ∨ 55 < c → sg_up (sg_up t (54 + 1) (t 54 1) (sp_ei z j k n m)) 54 1 (t 54 1 + 1) c i = s c i := fun c i q => by rw [sg_upN _ (by omega), sg_upN _ (by omega)]; exact hF c i q
        generalize sg_up (sg_up t (54 + 1) (t 54 1) (sp_ei z j k n m)) 54 1 (t 54 1 + 1) = u at *
        have ih := sp_evL hst hw hc hr hQ r (m + 1) u (by omega) fe re
        rw [show ((m + 1 : Nat) : Int) = (m : Int) + 1 by omega, sp_ew] at ih
        have wr := sp_ew_rg z j k n m
        have l1 := sp_es_at z j k n (m + 1)
        refine ⟨fun q => ⟨by omega, ?_⟩, fun q => ?_⟩
        · have e0 : m = 0 := by omega
          rw [if_pos e0] at ih
          rw [e0] at ih ⊢; exact ih
        · rw [if_neg (by omega)] at ih
          refine tX4_at (c := 21) (sp_ln hst 55 10021 rfl) (by omega) re.1 (by rw [(l1 0).1]; omega) re.2 ?_
          refine ⟨by omega, ?_⟩
          refine tX4_at (c := 21) (sp_ln hst 55 10021 rfl) (by omega) re.1 (by rw [(l1 0).1]; omega) re.2 ?_
          rw [(l1 m).2 (by omega) (by omega), (l1 ((m : Int) - 1)).2 (by omega) (by omega)]
          have g1 := sp_ei_rg z j k n m
          have g2 := sp_ei_rg z j k n ((m : Int) - 1)
          have hab : 0 ≤ sg_abs (sp_ei z j k n m - sp_ei z j k n ((m : Int) - 1)) ∧ sg_abs (sp_ei z j k n m - sp_ei z j k n ((m : Int) - 1)) ≤ 101 := by unfold sg_abs; split <;> omega
          refine ⟨by omega, by omega, fun v34 h34 => ⟨?_, by omega, ?_⟩⟩
          · rw [h34]; unfold sg_max; split <;> omega
          · rw [h34]; exact ih
theorem sp_RC_E {s' : sg_M} {E : List Int} (H : sp_RC La s z) (h89 : 89 ≤ La.1) (e : ∀ c i, c < 54 ∨ 55 < c → s' c i = s c i) (hE : sp_rw s' 54 E) : sp_RC La s' (zE' z E) := by
  rw [sp_RC_eq] at H ⊢
  obtain ⟨hT, hF, hN, hI, hL, hG, hW, hR, hD, -, hU, hQ, hK⟩ := H
  exact ⟨sp_kT hT (fun c i q => e c i (by omega)), by rw [e 0 16 (by omega)]; exact hF, sp_kN hN (sp_X_refl La) h89 (fun c i q => e c i (by omega)), sp_kI hI (sp_X_refl La) h89 (fun c i q => e c i (by omega)), sp_kL hL (fun i => e 37 i (by omega)),
    sp_kR hG (fun c i _ _ => e c i (by omega)), by rw [e 0 17 (by omega)]; exact hW, by rw [e 0 18 (by omega)]; exact hR, sp_kR hD (fun c i _ _ => e c i (by omega)), hE, sp_kR hU (fun c i _ _ => e c i (by omega)), sp_kQ hQ (fun c i _ _ => e c i (by omega)), sp_kK hK (fun c i _ _ => e c i (by omega))⟩
theorem k1Even {j k n : Int} {Q : Int → sg_M → Prop} (hst : sg_St La) (h89 : 89 ≤ La.1) (hw : sp_wZ z) (H : sp_RC La s z) (h : ∀ s', sp_FM s s' → sp_RC La s' (yEven z j k n) → Q (aEven z j k n) s') : fX11_even La s j k n Q := by
  have no : ¬ sp_ec z j k n → ∀ t, sp_FM s t → sp_RC La t z → Q (-1) t := fun g t q1 q2 => by
    unfold aEven yEven at h; rw [if_neg g, if_neg g] at h; exact h t q1 q2
  have l1 := sp_vq_len hw
  have hlen := hw.2.2.1.2.2.2.2.2.2.1
  have hlen2 := hw.2.2.1.2.2.2.2.2.1
  refine ⟨fun g => no (by omega) s (fun _ _ _ _ => rfl) H, fun g1 => ⟨fun g2 => ?_, fun g => no (by omega) s (fun _ _ _ _ => rfl) H⟩⟩
  refine sp_hb hst h89 hw H (fun t hF HR rV rU => ?_)
  have hFM : sp_FM s t := fun c i q1 q2 => hF c i (by omega)
  refine tX4_at (c := 40) (sp_ln hst 59 10040 rfl) (by omega) rV.1 (by omega) rV.2 ?_
  refine tX4_at (c := 40) (sp_ln hst 59 10040 rfl) (by omega) rV.1 (by omega) rV.2 ?_
  refine ⟨fun g => no (by omega) t hFM HR, fun g3 => ⟨fun g4 => ?_, fun g => no (by omega) t hFM HR⟩⟩
  have hc : sp_ec z j k n := by omega
  unfold aEven yEven at h
  rw [if_pos hc, if_pos hc] at h
  have pj := sp_at_pos hc.2.2.1
  have pk := sp_at_pos hc.2.2.2
  have HR' := HR
  rw [sp_RC_eq] at HR'
  obtain ⟨-, -, ⟨-, -, -, ⟨-, -, hKn, hKa, hKb⟩, -⟩, -⟩ := HR'
  refine tX4_at (c := 40) (sp_ln hst 22 10040 rfl) (by omega) hKa.1 (by omega) hKa.2 ?_
  refine tX4_at (c := 40) (sp_ln hst 24 10040 rfl) (by omega) hKb.1 (by omega) hKb.2 ?_
  refine tX4_at (c := 40) (sp_ln hst 22 10040 rfl) (by omega) hKa.1 (by omega) hKa.2 ?_
  refine tX4_at (c := 40) (sp_ln hst 24 10040 rfl) (by omega) hKb.1 (by omega) hKb.2 ?_
  refine tX4_clear ⟨102, ?_⟩
  have HR2 : sp_RC La (sg_up t 56 1 0) z := sp_RC_same HR (sp_X_refl La) h89 (fun c i hr => sg_upN _ (by unfold sp_rdc at hr; omega))
  refine sp_hpL (s := sg_up t 56 1 0) (j := j) (k := k) hst h89 hw HR2 (by omega) (by omega) ?_ 101 0 _ (by omega) (fun _ _ _ => rfl) (sp_rw_nil _ _)
  intro u hFu hru
  refine tX4_clear ⟨n.toNat + 2, ?_⟩
  have fu : ∀ c i, c < 32 ∨ (36 < c ∧ c < 56) ∨ 57 < c → u c i = t c i := fun c i q => by rw [hFu c i q, sg_upN _ (by omega)]
  have HRu : sp_RC La (sg_up u 54 1 0) z → True := fun _ => trivial
  have key := sp_evL (La := La) (s := sg_up u 54 1 0) (z := z) (j := j) (k := k) (n := n) (Q := Q) hst hw hc (sp_kR hru (fun c i q1 q2 => sg_upN _ (by omega))) (fun w hFw hrw => ?_) (n.toNat + 1) 0 _ (by omega) (fun _ _ _ => rfl) (sp_rw_nil _ _)
  · exact key
  · have HRu2 : sp_RC La u z := sp_RC_same HR (sp_X_refl La) h89 (fun c i hr => fu c i (by unfold sp_rdc at hr; omega))
    refine h w (fun c i q1 q2 => by rw [hFw c i (by omega), sg_upN _ (by omega), fu c i (by omega)]; exact hFM c i q1 q2) (sp_RC_E HRu2 h89 (fun c i q => by rw [hFw c i q, sg_upN _ (by omega)]) hrw)
end SGKe
