/-! LEVEL 2: said. -/
noncomputable section SGKs
variable {La : sg_L} {s : sg_M} {z : sp_Z}
theorem sp_at_mid (A : List Int) (x : Int) (B : List Int) : sp_at (A ++ x :: B) A.length = x := by
  unfold sp_at
  rw [if_neg (by omega), Int.toNat_natCast, List.getD_eq_getElem?_getD, List.getElem?_append_right (Nat.le_refl _), Nat.sub_self]; rfl
/-- what is asked of a tick -/
def sEn (B : sg_M) (a b t : Int) : Int → Int := sp_en B a b t
theorem tX5_compares {o v i : Int} {G M : List Int} {Q : Int → Prop} (lg : sg_ln La (o + 4) = 40) (lm : sg_ln La (o + 6) = 40) (hg : sp_rw s (o + 3) G) (hm : sp_rw s (o + 5) M) (hG : G.length ≤ 40) (hM : M.length ≤ 40)
    (h : Q (if sp_cm (sp_at G i) v (sp_at M i) then 1 else 0)) : fX5_compares La s o v i Q := by
  have q2 : o + 3 + 1 = o + 4 := by omega
  have q3 : o + 5 + 1 = o + 6 := by omega
  unfold sp_cm at h
  refine tX4_at (c := 40) (by rw [q3]; exact lm) (by omega) hm.1 (by omega) hm.2 ?_
  refine tX4_at (c := 40) (by rw [q2]; exact lg) (by omega) hg.1 (by omega) hg.2 ?_
  refine ⟨fun c1 => tX4_at (c := 40) (by rw [q2]; exact lg) (by omega) hg.1 (by omega) hg.2 ?_, fun c1 => ?_⟩
  · rw [if_neg c1] at h
    refine ⟨fun c2 => ?_, fun c2 => ?_⟩
    · rw [if_neg c2] at h
      exact ⟨fun c3 => by rw [if_neg (by simp [c3])] at h; exact h, fun c3 => by rw [if_pos (by simp [c3])] at h; exact h⟩
    · rw [if_pos c2] at h
      refine ⟨fun c3 => ?_, fun c3 => ?_⟩
      · rw [if_neg (by simp; omega)] at h; exact h
      · rw [if_pos (by simp; omega)] at h; exact h
  · rw [if_pos c1] at h
    refine ⟨fun c3 => ?_, fun c3 => ?_⟩
    · rw [if_neg (by simp; omega)] at h; exact h
    · rw [if_pos (by simp; omega)] at h; exact h
theorem tX5_isSo {B : sg_M} {a b t o i : Int} {K G M : List Int} {Q : Int → Prop} (lk : sg_ln La (o + 2) = 40) (lg : sg_ln La (o + 4) = 40) (lm : sg_ln La (o + 6) = 40) (hk : sp_rw s (o + 1) K) (hg : sp_rw s (o + 3) G) (hm : sp_rw s (o + 5) M) (hK : K.length ≤ 40) (hG : G.length ≤ 40) (hM : M.length ≤ 40)
    (hbt : sp_cbt B a b s) (hv : sp_vxc s (sp_vo B a b)) (hr : 0 ≤ sp_at K i ∧ sp_at K i ≤ 8) (h : ∀ u, (u = 0 ↔ sLv (sp_at K i) (sp_at G i) (sp_at M i) (sp_en B a b t) = false) → Q u) : fX5_isSo La s o i t Q := by
  have q1 : o + 1 + 1 = o + 2 := by omega
  refine tX4_at (c := 40) (by rw [q1]; exact lk) (by omega) hk.1 (by omega) hk.2 ?_
  have cmp : ∀ j v, sp_at K i = j → 0 ≤ j → j ≤ 5 → v = sp_en B a b t j → fX5_compares La s o v i (fun u7 => Q u7) := fun j v hj h0 h5 hv => by
    refine tX5_compares lg lm hg hm hG hM (h _ ?_)
    have e : sLv j (sp_at G i) (sp_at M i) (sp_en B a b t) = sp_cm (sp_at G i) (sp_en B a b t j) (sp_at M i) := by
      unfold sLv
      rw [if_neg (by omega), if_neg (by omega), if_neg (by omega)]
    rw [hj, e, ← hv]
    cases sp_cm (sp_at G i) v (sp_at M i) <;> simp
  obtain ⟨b1, b2, b3, b4, -, b6⟩ := hbt
  refine ⟨fun c => h _ ?_, fun c => cmp 0 _ c (by omega) (by omega) hv.1, fun c => cmp 1 _ c (by omega) (by omega) hv.2.1, fun c => cmp 2 _ c (by omega) (by omega) hv.2.2.1, fun c => cmp 3 _ c (by omega) (by omega) b4, fun c => cmp 4 _ c (by omega) (by omega) b6.1, fun c => cmp 5 _ c (by omega) (by omega) rfl, fun c => ⟨fun c2 => h _ ?_, fun c2 => h _ ?_⟩, fun c => ⟨fun c2 => h _ ?_, fun c2 => h _ ?_⟩⟩
  · have c8 : sp_at K i = 8 := by omega
    rw [c8, hv.2.2.2]
    show _ ↔ decide ((sp_vo B a b).2.2.2 ≠ 0) = false
    simp
  · rw [c]
    show _ ↔ decide (0 < (sp_vo B a b).1) = false
    rw [hv.1] at c2
    simp; omega
  · rw [c]
    show _ ↔ decide (0 < (sp_vo B a b).1) = false
    rw [hv.1] at c2
    simp; omega
  · rw [c]
    rw [b3] at c2
    show _ ↔ decide ((if sp_bk B a b (B 4 0).toNat ≠ -1 then (1 : Int) else 0) ≠ 0) = false
    rw [if_neg (by omega)]; simp
  · rw [c]
    rw [b3] at c2
    show _ ↔ decide ((if sp_bk B a b (B 4 0).toNat ≠ -1 then (1 : Int) else 0) ≠ 0) = false
    rw [if_pos c2]; simp
theorem sp_rn_leaf {e : Int → Int} {k g n : Int} {l : List (Int × Int × Int)} {st : List Bool} (hk : 0 ≤ k ∧ k ≤ 8) : sp_rn e sp_cm ((k, g, n) :: l) st = sp_rn e sp_cm l (sLv k g n e :: st) := by
  have := (sSeg_leaf (k := k) (g := g) (n := n) hk).2.2.2.2.2.2 e l st
  exact this
/-- the class's steps -/
theorem tq_hoL {B : sg_M} {a b t o : Int} {K G M : List Int} {S : Bool} {Q : Int → Prop} (lk : sg_ln La (o + 2) = 40) (lg : sg_ln La (o + 4) = 40) (lm : sg_ln La (o + 6) = 40) (hk : sp_rw s (o + 1) K) (hg : sp_rw s (o + 3) G) (hm : sp_rw s (o + 5) M) (hK : K.length ≤ 40) (hG : G.length = K.length) (hM : M.length = K.length)
    (hbt : sp_cbt B a b s) (hv : sp_vxc s (sp_vo B a b)) (hr : ∀ x, x ∈ K → 0 ≤ x ∧ x ≤ 11) (h : Q (if S then 1 else 0)) :
    ∀ (K' G' M' A A2 A3 : List Int) (st : List Bool), K = A ++ K' → G = A2 ++ G' → M = A3 ++ M' → A2.length = A.length → A3.length = A.length → sp_lf K' + st.length ≤ 20 → sp_rn (sp_en B a b t) sp_cm (sp_3 K' G' M') st = [S] →
      fX5_holds_L5 La s o t (fun x3_113e5 => (((sg_and x3_113e5 1) ≠ 1 → Q 0) ∧ ((sg_and x3_113e5 1) = 1 → Q 1))) (K'.length + 1) (sBt st) A.length
  | [], G', M', A, A2, A3, st, eK, eG, eM, l2, l3, hl, hrn => by
    have e0 : sp_3 [] G' M' = [] := by unfold sp_3; rfl
    rw [e0, sp_rn] at hrn
    rw [List.append_nil] at eK
    rw [List.length_nil, fX5_holds_L5, hk.1, eK]
    refine ⟨fun _ => ?_, fun c => absurd (Int.le_refl _) c⟩
    rw [hrn]
    have e1 : sBt [S] = sBb S := by rw [sBt, sBt]; omega
    have := sBb_rg S
    rw [e1, sg_and1 (by omega)]
    cases S
    · exact ⟨fun _ => h, fun c => absurd c (by simp [sBb])⟩
    · exact ⟨fun c => absurd c (by simp [sBb]), fun _ => h⟩
  | k :: K', G', M', A, A2, A3, st, eK, eG, eM, l2, l3, hl, hrn => by
    have lK : K.length = A.length + K'.length + 1 := by rw [eK]; simp; omega
    have lG : G.length = A2.length + G'.length := by rw [eG]; simp
    have lM : M.length = A3.length + M'.length := by rw [eM]; simp
    match G', M', eG, eM, lG, lM, hrn with
    | [], _, eG, eM, lG, lM, hrn => simp at lG; omega
    | g :: G', [], eG, eM, lG, lM, hrn => simp at lM; omega
    | g :: G', n :: M', eG, eM, lG, lM, hrn =>
      have e3 : sp_3 (k :: K') (g :: G') (n :: M') = (k, g, n) :: sp_3 K' G' M' := by unfold sp_3; rfl
      rw [e3] at hrn
      have ak : sp_at K A.length = k := by rw [eK]; exact sp_at_mid A k K'
      have ag : sp_at G A.length = g := by rw [eG, ← l2]; exact sp_at_mid A2 g G'
      have am : sp_at M A.length = n := by rw [eM, ← l3]; exact sp_at_mid A3 n M'
      have kr := hr k (by rw [eK]; simp)
      have go : ∀ (x3 : Int) (st' : List Bool), x3 = sBt st' → sp_lf K' + st'.length ≤ 20 → sp_rn (sp_en B a b t) sp_cm (sp_3 K' G' M') st' = [S] → fX5_holds_j107 A.length (fX5_holds_L5 La s o t (fun x3_113e5 => (((sg_and x3_113e5 1) ≠ 1 → Q 0) ∧ ((sg_and x3_113e5 1) = 1 → Q 1))) (K'.length + 1)) x3 := by
        intro x3 st' ex hl' hrn'
        refine ⟨by omega, ?_⟩
        have ih := tq_hoL lk lg lm hk hg hm hK hG hM hbt hv hr h K' G' M' (A ++ [k]) (A2 ++ [g]) (A3 ++ [n]) st' (by rw [eK]; simp) (by rw [eG]; simp) (by rw [eM]; simp) (by simp [l2]) (by simp [l3]) hl' hrn'
        rw [ex]
        rw [show (((A ++ [k]).length : Nat) : Int) = (A.length : Int) + 1 by simp] at ih
        exact ih
      rw [List.length_cons, fX5_holds_L5, hk.1]
      refine ⟨fun c => absurd c (by omega), fun _ => ?_⟩
      have q1 : o + 1 + 1 = o + 2 := by omega
      refine tX4_at (c := 40) (by rw [q1]; exact lk) (by omega) hk.1 (by omega) hk.2 ?_
      rw [ak]
      refine ⟨fun c => ?_, fun c => ?_, fun c v12 e12 => ?_, fun c v15 e15 => ?_⟩
      · have k8 : 0 ≤ k ∧ k ≤ 8 := by omega
        have hlk : sp_lf (k :: K') = sp_lf K' + 1 := by rw [sp_lf, if_pos (by omega)]
        rw [sp_rn_leaf k8] at hrn
        refine tX5_isSo (B := B) (a := a) (b := b) lk lg lm hk hg hm hK (by omega) (by omega) hbt hv (by rw [ak]; exact k8) (fun u hu => ?_)
        rw [ak, ag, am] at hu
        have push : ∀ y bb, bb = sLv k g n (sp_en B a b t) → y = (sBb bb : Int) → fX5_holds_j105 (sBt st) (fX5_holds_j107 A.length (fX5_holds_L5 La s o t (fun x3_113e5 => (((sg_and x3_113e5 1) ≠ 1 → Q 0) ∧ ((sg_and x3_113e5 1) = 1 → Q 1))) (K'.length + 1))) y := by
          intro y bb ebb ey
          unfold fX5_holds_j105
          rw [ey, sBt_push bb (by omega)]
          exact go _ (bb :: st) rfl (by simp only [List.length_cons]; omega) (by rw [ebb]; exact hrn)
        refine ⟨fun c0 => push 0 false (hu.mp c0).symm rfl, fun c0 => push 1 true ?_ rfl⟩
        rcases hb : sLv k g n (sp_en B a b t) with _ | _
        · exact absurd (hu.mpr hb) c0
        · rfl
      · subst c
        have hlk : sp_lf (9 :: K') = sp_lf K' := by rw [sp_lf, if_neg (by omega)]
        match st, hl, hrn with
        | [], hl, hrn => simp [sp_rn] at hrn
        | b0 :: st, hl, hrn =>
          have hrn2 : sp_rn (sp_en B a b t) sp_cm (sp_3 K' G' M') ((!b0) :: st) = [S] := by simpa [sp_rn] using hrn
          rw [sBt_not b0 (by omega)]
          exact go _ ((!b0) :: st) rfl (by simp only [List.length_cons] at hl ⊢; omega) hrn2
      · subst c
        have hlk : sp_lf (10 :: K') = sp_lf K' := by rw [sp_lf, if_neg (by omega)]
        match st, hl, hrn, e12 with
        | [], hl, hrn, e12 => simp [sp_rn] at hrn
        | [b0], hl, hrn, e12 => simp [sp_rn] at hrn
        | b0 :: a0 :: st, hl, hrn, e12 =>
          have hrn2 : sp_rn (sp_en B a b t) sp_cm (sp_3 K' G' M') ((a0 && b0) :: st) = [S] := by simpa [sp_rn] using hrn
          rw [sBt_and a0 b0 (by omega)] at e12
          have k20 := sBt_20 (l := (a0 && b0) :: st) (by simp only [List.length_cons] at hl ⊢; omega)
          refine ⟨by omega, go _ ((a0 && b0) :: st) e12 (by simp only [List.length_cons] at hl ⊢; omega) hrn2⟩
      · subst c
        have hlk : sp_lf (11 :: K') = sp_lf K' := by rw [sp_lf, if_neg (by omega)]
        match st, hl, hrn, e15 with
        | [], hl, hrn, e15 => simp [sp_rn] at hrn
        | [b0], hl, hrn, e15 => simp [sp_rn] at hrn
        | b0 :: a0 :: st, hl, hrn, e15 =>
          have hrn2 : sp_rn (sp_en B a b t) sp_cm (sp_3 K' G' M') ((a0 || b0) :: st) = [S] := by simpa [sp_rn] using hrn
          rw [sBt_or a0 b0 (by omega)] at e15
          have k20 := sBt_20 (l := (a0 || b0) :: st) (by simp only [List.length_cons] at hl ⊢; omega)
          refine ⟨by omega, go _ ((a0 || b0) :: st) e15 (by simp only [List.length_cons] at hl ⊢; omega) hrn2⟩
theorem sp_vs_tw (W : Int → Int) (n u : Int) (P : List Int) : ∀ (l : List Int) (most : Int) (v : Int × Int × Int × Int), (v.2.2.2 = 0 ∨ v.2.2.2 = 1) → (sp_vs W n u P l most v).2.2.2 = 0 ∨ (sp_vs W n u P l most v).2.2.2 = 1
  | [], most, v, h => h
  | p :: l, most, v, h => by
    rw [sp_vs]; split
    · exact sp_vs_tw W n u P l most v h
    · split
      · exact sp_vs_tw W n u P l most v h
      · split
        · exact sp_vs_tw W n u P l most v h
        · exact sp_vs_tw W n u P l _ _ (sg_tw_B _ _ _ _)
theorem sp_vo_tw (B : sg_M) (a b : Int) : (sp_vo B a b).2.2.2 = 0 ∨ (sp_vo B a b).2.2.2 = 1 := by
  unfold sp_vo; split
  · exact Or.inl rfl
  · exact sp_vs_tw _ _ _ _ _ _ _ (Or.inl rfl)
theorem tq_cmp {g v n k : Int} {x : Bool} {Q : Int → Prop} (hk : 0 ≤ k ∧ k < 60) (hs : 60 ≤ g ∧ g ≤ 62) (h : sp_cm g v n = x) (hQ : Q (if x then 1 else 0)) : (0 ≤ ((1800 + (4 * k)) + 3) ∧ ((1800 + (4 * k)) + 3) < 2040) ∧ ((g ≠ 60 → (0 ≤ ((1800 + (4 * k)) + 3) ∧ ((1800 + (4 * k)) + 3) < 2040) ∧ ((g ≠ 61 → (0 ≤ ((1800 + (4 * k)) + 2) ∧ ((1800 + (4 * k)) + 2) < 2040) ∧ ((v ≤ n → Q 0) ∧ (¬ (v ≤ n) → Q 1))) ∧ (g = 61 → (0 ≤ ((1800 + (4 * k)) + 2) ∧ ((1800 + (4 * k)) + 2) < 2040) ∧ ((v ≠ n → Q 0) ∧ (v = n → Q 1))))) ∧ (g = 60 → (0 ≤ ((1800 + (4 * k)) + 2) ∧ ((1800 + (4 * k)) + 2) < 2040) ∧ ((n ≤ v → Q 0) ∧ (¬ (n ≤ v) → Q 1)))) := by
  have bx : 0 ≤ 1800 + 4 * k + 3 ∧ 1800 + 4 * k + 3 < 2040 := by omega
  have by2 : 0 ≤ 1800 + 4 * k + 2 ∧ 1800 + 4 * k + 2 < 2040 := by omega
  unfold sp_cm at h
  have t1 : x = true → Q 1 := fun e => by rw [e] at hQ; exact hQ
  have t0 : x = false → Q 0 := fun e => by rw [e] at hQ; exact hQ
  refine ⟨bx, fun c => ⟨bx, fun c2 => ⟨by2, fun c3 => t0 ?_, fun c3 => t1 ?_⟩, fun c2 => ⟨by2, fun c3 => t0 ?_, fun c3 => t1 ?_⟩⟩, fun c => ⟨by2, fun c3 => t0 ?_, fun c3 => t1 ?_⟩⟩
  · rw [if_neg c, if_pos (by omega)] at h; rw [← h]; simp; omega
  · rw [if_neg c, if_pos (by omega)] at h; rw [← h]; simp; omega
  · rw [if_neg c, if_neg (by omega)] at h; rw [← h]; simp; omega
  · rw [if_neg c, if_neg (by omega)] at h; rw [← h]; simp; omega
  · rw [if_pos c] at h; rw [← h]; simp; omega
  · rw [if_pos c] at h; rw [← h]; simp; omega
/-- the reference's nodes -/
theorem tX12_isSo {B : sg_M} {a b t : Int} (hbt : sp_mbt B a b s) (hv : sp_vx s (sp_vo B a b)) : ∀ (d : Nat) (k : Int) (x : Bool) (Q : Int → Prop), sp_ev (s 66) d k (sp_en B a b t) = some x → Q (if x then 1 else 0) → g_mS d 0 s k t Q
  | 0, k, x, Q, h, hQ => by rw [sp_ev] at h; cases h
  | d + 1, k, x, Q, h, hQ => by
    rw [sp_ev] at h
    rw [g_mS]
    unfold fX12_isSo_b
    by_cases c0 : k < 0 ∨ 60 ≤ k
    · rw [if_pos c0] at h; cases h
    · rw [if_neg c0] at h
      refine ⟨by omega, fun c => ?_, fun c => ?_, fun c => ?_, fun c => ?_, fun c => ?_, fun c => ?_, fun c => ?_⟩
      · rw [if_neg (by omega), if_neg (by omega), if_neg (by omega), if_neg (by omega), if_neg (by omega), if_neg (by omega)] at h
        by_cases cw : s 66 (1800 + 4 * k + 1) < 16 ∨ 21 < s 66 (1800 + 4 * k + 1) ∨ s 66 (1800 + 4 * k + 3) < 60 ∨ 62 < s 66 (1800 + 4 * k + 3)
        · rw [if_pos cw] at h; cases h
        · rw [if_neg cw] at h
          have h := Option.some.inj h
          refine ⟨by omega, ?_⟩
          have val : ∀ v j, s 66 (1800 + 4 * k + 1) - 16 = j → v = sp_en B a b t j → sp_cm (s 66 (1800 + 4 * k + 3)) v (s 66 (1800 + 4 * k + 2)) = x := fun v j ej ev => by rw [ej, ← ev] at h; exact h
          refine ⟨fun c2 => ?_, fun c2 => ?_, fun c2 => ?_, fun c2 => ?_, fun c2 => ?_, fun c2 => ?_⟩
          · exact tq_cmp ⟨by omega, by omega⟩ (by omega) (val t 5 (by omega) rfl) hQ
          · exact tq_cmp ⟨by omega, by omega⟩ (by omega) (val _ 0 (by omega) hv.1) hQ
          · exact tq_cmp ⟨by omega, by omega⟩ (by omega) (val _ 1 (by omega) hv.2.1) hQ
          · exact tq_cmp ⟨by omega, by omega⟩ (by omega) (val _ 2 (by omega) hv.2.2.1) hQ
          · exact tq_cmp ⟨by omega, by omega⟩ (by omega) (val _ 3 (by omega) hbt.2.2.2.2.1) hQ
          · exact tq_cmp ⟨by omega, by omega⟩ (by omega) (val _ 4 (by omega) hbt.2.2.1) hQ
      · rw [if_pos c] at h
        refine ⟨by omega, ?_⟩
        rcases hx : sp_ev (s 66) d (s 66 (1800 + 4 * k + 1)) (sp_en B a b t) with _ | y
        · rw [hx] at h; cases h
        · rw [hx] at h
          have h : (!y) = x := Option.some.inj h
          refine tX12_isSo hbt hv d _ y _ hx ?_
          cases y
          · have : x = true := h.symm
            subst this
            exact ⟨fun c => absurd rfl c, fun _ => hQ⟩
          · have : x = false := h.symm
            subst this
            exact ⟨fun _ => hQ, fun c => absurd (show (1 : Int) = 0 from c) (by omega)⟩
      · rw [if_neg (by omega), if_pos c] at h
        refine ⟨by omega, ?_⟩
        rcases hx : sp_ev (s 66) d (s 66 (1800 + 4 * k + 1)) (sp_en B a b t) with _ | y
        · rw [hx] at h; cases h
        · rw [hx] at h
          refine tX12_isSo hbt hv d _ y _ hx ?_
          cases y
          · have : false = x := Option.some.inj h
            subst this
            exact ⟨fun _ => hQ, fun c => absurd rfl c⟩
          · refine ⟨fun c => absurd (show (1 : Int) = 0 from c) (by omega), fun _ => ⟨by omega, ?_⟩⟩
            refine tX12_isSo hbt hv d _ x _ h ?_
            cases x
            · exact ⟨fun _ => hQ, fun c => absurd rfl c⟩
            · exact ⟨fun c => absurd (show (1 : Int) = 0 from c) (by omega), fun _ => hQ⟩
      · rw [if_neg (by omega), if_neg (by omega), if_pos c] at h
        refine ⟨by omega, ?_⟩
        rcases hx : sp_ev (s 66) d (s 66 (1800 + 4 * k + 1)) (sp_en B a b t) with _ | y
        · rw [hx] at h; cases h
        · rw [hx] at h
          refine tX12_isSo hbt hv d _ y _ hx ?_
          cases y
          · refine ⟨fun c => absurd rfl c, fun _ => ⟨by omega, ?_⟩⟩
            refine tX12_isSo hbt hv d _ x _ h ?_
            cases x
            · exact ⟨fun _ => hQ, fun c => absurd rfl c⟩
            · exact ⟨fun c => absurd (show (1 : Int) = 0 from c) (by omega), fun _ => hQ⟩
          · have : true = x := Option.some.inj h
            subst this
            exact ⟨fun _ => hQ, fun c => absurd (show (1 : Int) = 0 from c) (by omega)⟩
      · rw [if_neg (by omega), if_neg (by omega), if_neg (by omega), if_pos c] at h
        have h : decide (0 < (sp_vo B a b).1) = x := Option.some.inj h
        rw [hv.1]
        refine ⟨fun c2 => ?_, fun c2 => ?_⟩
        · rw [← h, if_neg (by simp; omega)] at hQ; exact hQ
        · rw [← h, if_pos (by simp; omega)] at hQ; exact hQ
      · rw [if_neg (by omega), if_neg (by omega), if_neg (by omega), if_neg (by omega), if_pos c] at h
        have h : decide ((if sp_bk B a b (B 4 0).toNat ≠ -1 then (1 : Int) else 0) ≠ 0) = x := Option.some.inj h
        rw [hbt.2.2.2.1]
        refine ⟨fun c2 => ?_, fun c2 => ?_⟩
        · rw [← h, if_neg (show ¬ sp_bk B a b (B 4 0).toNat ≠ -1 by omega), if_neg (by simp)] at hQ; exact hQ
        · rw [← h, if_pos c2, if_pos (by simp)] at hQ; exact hQ
      · rw [if_neg (by omega), if_neg (by omega), if_neg (by omega), if_neg (by omega), if_neg (by omega), if_pos c] at h
        have h : decide ((sp_vo B a b).2.2.2 ≠ 0) = x := Option.some.inj h
        rw [hv.2.2.2]
        rcases sp_vo_tw B a b with e | e
        · rw [e] at h ⊢; rw [← h] at hQ; exact hQ
        · rw [e] at h ⊢; rw [← h] at hQ; exact hQ
end SGKs
