/-! LEVEL 2: said, both calls. -/
noncomputable section SGKt
variable {La : sg_L} {s : sg_M} {z : sp_Z}
theorem sp_tk_len (B : sg_M) (S : (Int → Int) → Bool) : ∀ (A D : List Int) (t : Int), (sp_tk B S A D t).length ≤ A.length
  | [], D, t => by simp [sp_tk]
  | a :: A, [], t => by simp [sp_tk]
  | a :: A, d :: D, t => by
    have := sp_tk_len B S A D (t + 1)
    rw [sp_tk]; split
    · simp only [List.length_cons]; omega
    · simp only [List.length_cons]; omega
def sTk (z : sp_Z) (S : (Int → Int) → Bool) : List Int := sp_tk (nB (zN z)) S (nHa (zN z)) (nHb (zN z)) 1
def aSaid (z : sp_Z) (k : Int) : Int := match nC (zN z) with
  | none => -1
  | some S => if k = -1 then ((sTk z S).length : Int) else sp_at (sTk z S) k
theorem tX3_knee {o x n : Int} {Q : Int → Prop} (h1 : s o 2 = n) (hn : n ≤ 200) (hx : 1 ≤ x ∧ x ≤ n) (h : Q (s (o + 1) (x - 1))) : fX3_knee s o x Q := by
  unfold fX3_knee
  rw [h1]
  exact ⟨fun c => absurd c (by omega), fun _ => ⟨fun c => absurd c (by omega), fun _ => ⟨fun _ => ⟨by omega, h⟩, fun c => absurd (show x ≤ 200 by omega) c⟩⟩⟩
theorem tX3_tip {o x n : Int} {Q : Int → Prop} (h1 : s o 2 = n) (hn : n ≤ 200) (hx : 1 ≤ x ∧ x ≤ n) (h : Q (s (o + 2) (x - 1))) : fX3_tip s o x Q := by
  unfold fX3_tip
  rw [h1]
  exact ⟨fun c => absurd c (by omega), fun _ => ⟨fun c => absurd c (by omega), fun _ => ⟨fun _ => ⟨by omega, h⟩, fun c => absurd (show x ≤ 200 by omega) c⟩⟩⟩
/-- what stays while ticks are asked -/
theorem sp_RC_tk {t : sg_M} (H : sp_RC La s z) (h89 : 89 ≤ La.1) (f : ∀ c i : Int, c < 32 ∨ (36 < c ∧ c < 62) ∨ 63 < c → t c i = s c i) (hW : sp_cW t (zN z)) : sp_RC La t z := by
  rw [sp_RC_eq] at H ⊢
  obtain ⟨hT, hFa, hN, hI, hL, hG, hW', hR, hDd, hE, hU, hQ, hKt⟩ := H
  exact ⟨sp_kT hT (fun c i q => f c i (by omega)), by rw [f 0 16 (by omega)]; exact hFa, sp_kN hN (sp_X_refl La) h89 (fun c i q => f c i (by omega)), sp_kI hI (sp_X_refl La) h89 (fun c i q => f c i (by omega)), sp_kL hL (fun i => f 37 i (by omega)),
    sp_kR hG (fun c i _ _ => f c i (by omega)), by rw [f 0 17 (by omega)]; exact hW', by rw [f 0 18 (by omega)]; exact hR, sp_kR hDd (fun c i _ _ => f c i (by omega)), sp_kR hE (fun c i _ _ => f c i (by omega)), sp_kR hU (fun c i _ _ => f c i (by omega)),
    sp_kQ hQ (fun c i _ _ => f c i (by omega)), hW⟩
theorem tX5_holds {B : sg_M} {a b t o : Int} {K G M : List Int} {S : Bool} {Q : Int → Prop} (lk : sg_ln La (o + 2) = 40) (lg : sg_ln La (o + 4) = 40) (lm : sg_ln La (o + 6) = 40) (hk : sp_rw s (o + 1) K) (hg : sp_rw s (o + 3) G) (hm : sp_rw s (o + 5) M) (hK : K.length ≤ 40) (hG : G.length = K.length) (hM : M.length = K.length)
    (hbt : sp_cbt B a b s) (hv : sp_vxc s (sp_vo B a b)) (hr : ∀ x, x ∈ K → 0 ≤ x ∧ x ≤ 11) (hl : sp_lf K ≤ 20) (hrn : sp_rn (sp_en B a b t) sp_cm (sp_3 K G M) [] = [S]) (h : Q (if S then 1 else 0)) : fX5_holds La s o t Q := by
  have key := tq_hoL (Q := Q) lk lg lm hk hg hm hK hG hM hbt hv hr h K G M [] [] [] [] rfl rfl rfl rfl rfl (by simp; omega) hrn
  have e0 : ((sBt [] : Nat) : Int) = 0 := rfl
  have e1 : ((([] : List Int).length : Nat) : Int) = 0 := rfl
  rw [e0, e1] at key
  exact ⟨K.length + 1, key⟩
theorem tq_skL {S : (Int → Int) → Bool} {Q : sg_M → Prop} (hst : sg_St La) (h89 : 89 ≤ La.1) (hw : sp_wZ z) (H : sp_RC La s z) (hS : nC (zN z) = some S) (hQ : ∀ t, (∀ c i : Int, c < 32 ∨ (36 < c ∧ c < 62) ∨ 63 < c → t c i = s c i) → sp_RC La t z → sp_rw t 62 (sTk z S) → Q t) :
    ∀ (A D : List Int) (x : Int) (V : List Int) (t : sg_M), 1 ≤ x → x - 1 + A.length = (nHa (zN z)).length → A.length = D.length → sg_ar (s (s 4 1 + 1)) (x - 1) A → sg_ar (s (s 4 1 + 2)) (x - 1) D → sp_bd A → sp_bd D → (∀ c i : Int, c < 32 ∨ (36 < c ∧ c < 62) ∨ 63 < c → t c i = s c i) → t 62 2 = 0 → sp_rw t 62 V → (V.length : Int) ≤ x - 1 → V ++ sp_tk (nB (zN z)) S A D x = sTk z S → fX11_askTicks_L20 La Q (A.length + 1) t x
  | A, D, x, V, t, hx, hl, hAD, hA, hD, bA, bD, hF, h62, rV, lV, eV => by
    have H' := H
    rw [sp_RC_eq] at H'
    obtain ⟨-, -, ⟨n1, n2, n3, -, -⟩, -⟩ := H'
    have hlen := hw.2.2.1.2.2.1
    have r1 := n2.1.2
    have f41 : t 4 1 = s 4 1 := hF 4 1 (by omega)
    have hr : 0 ≤ s 4 1 ∧ (s 4 1 + 2 < 32 ∨ 63 < s 4 1) := by omega
    have fr : ∀ k i : Int, 0 ≤ k → k ≤ 2 → t (s 4 1 + k) i = s (s 4 1 + k) i := fun k i k0 k2 => hF _ i (by omega)
    have e2 : t (s 4 1) 2 = (nHa (zN z)).length := by
      have := fr 0 2 (by omega) (by omega)
      rw [Int.add_zero] at this
      rw [this]; exact n2.2.1
    have HR : sp_RC La t z := sp_RC_tk H h89 hF (fun c => absurd h62 c)
    match A, D, hl, hAD, hA, hD, bA, bD, eV with
    | [], D, hl, hAD, hA, hD, bA, bD, eV =>
      simp only [List.length_nil] at hl
      rw [List.length_nil, fX11_askTicks_L20, f41, e2]
      refine ⟨hr.1, fun _ s13 e13 => ?_, fun c => absurd (show ((nHa (zN z)).length : Int) < x by omega) c⟩
      have e0 : sp_tk (nB (zN z)) S [] D x = [] := by simp [sp_tk]
      rw [e0, List.append_nil] at eV
      have rw13 : sp_rw s13 62 (sTk z S) := by
        rw [← eV]
        exact sp_rw_same rV (by rw [e13, sg_upN _ (by omega)]) (fun i => by rw [e13, sg_upN _ (by omega)])
      refine hQ s13 (fun c i w => by rw [e13, sg_upN _ (by omega)]; exact hF c i w) (sp_RC_tk H h89 (fun c i w => by rw [e13, sg_upN _ (by omega)]; exact hF c i w) (fun _ S' hS' => ?_)) rw13
      rw [hS] at hS'
      cases hS'
      exact rw13
    | a :: A, [], hl, hAD, hA, hD, bA, bD, eV => simp at hAD
    | a :: A, d :: D, hl, hAD, hA, hD, bA, bD, eV =>
      simp only [List.length_cons] at hl hAD
      rw [List.length_cons, fX11_askTicks_L20, f41, e2]
      refine ⟨hr.1, fun c => absurd c (by omega), fun _ => ⟨hr.1, ?_⟩⟩
      refine tX3_knee e2 (by omega) (by omega) ?_
      refine ⟨hr.1, tX3_tip e2 (by omega) (by omega) ?_⟩
      have ea : t (s 4 1 + 1) (x - 1) = a := by rw [fr 1 _ (by omega) (by omega)]; exact hA.1
      have ed : t (s 4 1 + 2) (x - 1) = d := by rw [fr 2 _ (by omega) (by omega)]; exact hD.1
      rw [ea, ed]
      refine sp_cv hst h89 hw HR (bA a List.mem_cons_self) (bD d List.mem_cons_self) (fun t2 f2 HR2 hbt hv => ?_)
      have F2 : ∀ c i : Int, c < 32 ∨ (36 < c ∧ c < 62) ∨ 63 < c → t2 c i = s c i := fun c i w => by rw [f2 c i (by omega) (by omega)]; exact hF c i w
      have f42 : t2 4 2 = s 4 2 := F2 4 2 (by omega)
      have r2 := n3.1.2
      have hr2 : 0 ≤ s 4 2 ∧ (s 4 2 + 6 < 32 ∨ 63 < s 4 2) := by omega
      obtain ⟨-, ln1, ln2, ln3, hc⟩ := n3
      rcases hc with hc | ⟨-, S', K, G, M, hS', k1, k2, k3, w1, w2, w3, kr, kl, krn⟩
      · rw [hS] at hc; exact absurd hc.1 (by intro w; cases w)
      · rw [hS] at hS'
        cases hS'
        have W : ∀ o l, sp_rw s o l → (s 4 2 ≤ o ∧ o ≤ s 4 2 + 5) → sp_rw t2 o l := fun o l hl ho => sp_kR hl (fun c i c1 c2 => F2 c i (by omega))
        have t62 : t2 62 2 = 0 := by rw [f2 62 2 (by omega) (by omega)]; exact h62
        have rV2 : sp_rw t2 62 V := sp_kR rV (fun c i c1 c2 => f2 c i (by omega) (by omega))
        rw [f42]
        refine ⟨hr2.1, tX5_holds (B := nB (zN z)) (a := a) (b := d) (t := x) (o := s 4 2) (S := S (sp_en (nB (zN z)) a d x)) ln1 ln2 ln3 (W _ _ w1 (by omega)) (W _ _ w2 (by omega)) (W _ _ w3 (by omega)) (by omega) k2 k3 hbt hv kr (by omega) (krn _) ?_⟩
        have etk : sp_tk (nB (zN z)) S (a :: A) (d :: D) x = if S (sp_en (nB (zN z)) a d x) then x :: sp_tk (nB (zN z)) S A D (x + 1) else sp_tk (nB (zN z)) S A D (x + 1) := by rw [sp_tk]
        rw [etk] at eV
        have tA : sg_ar (s (s 4 1 + 1)) (x + 1 - 1) A := by
          have := hA.2
          rw [show x - 1 + 1 = x + 1 - 1 by omega] at this; exact this
        have tD : sg_ar (s (s 4 1 + 2)) (x + 1 - 1) D := by
          have := hD.2
          rw [show x - 1 + 1 = x + 1 - 1 by omega] at this; exact this
        rcases hb : S (sp_en (nB (zN z)) a d x) with _ | _
        · rw [hb] at eV
          refine ⟨fun _ => ⟨by omega, ?_⟩, fun c => absurd rfl c⟩
          exact tq_skL hst h89 hw H hS hQ A D (x + 1) V t2 (by omega) (by omega) (by omega) tA tD (fun y hy => bA y (List.mem_cons_of_mem _ hy)) (fun y hy => bD y (List.mem_cons_of_mem _ hy)) F2 t62 rV2 (by omega) eV
        · rw [hb] at eV
          refine ⟨fun c => absurd (show (1 : Int) = 0 from c) (by omega), fun _ => ?_⟩
          refine tX4_add (c := 200) (sp_ln hst 63 10200 rfl) (by omega) (by rw [rV2.1]; omega) (by rw [rV2.1]; omega) ⟨by omega, ?_⟩
          have rV3 := sp_rw_snoc (x := x) rV2
          generalize hg : sg_up (sg_up t2 (62 + 1) (t2 62 1) x) 62 1 (t2 62 1 + 1) = t3 at rV3
          have f3 : ∀ c i : Int, (c = 62 → i ≠ 1) → c ≠ 63 → t3 c i = t2 c i := fun c i w1 w2 => by rw [← hg, sg_upN _ (by omega), sg_upN _ (by omega)]
          refine tq_skL hst h89 hw H hS hQ A D (x + 1) (V ++ [x]) t3 (by omega) (by omega) (by omega) tA tD (fun y hy => bA y (List.mem_cons_of_mem _ hy)) (fun y hy => bD y (List.mem_cons_of_mem _ hy)) (fun c i w => by rw [f3 c i (by omega) (by omega)]; exact F2 c i w) (by rw [f3 62 2 (by omega) (by omega)]; exact t62) rV3 (by simp; omega) ?_
          rw [List.append_assoc]
          exact eV
  termination_by A => A.length
theorem k1Said {k : Int} {Q : Int → sg_M → Prop} (hst : sg_St La) (h89 : 89 ≤ La.1) (hw : sp_wZ z) (H : sp_RC La s z) (h : ∀ s', sp_FM s s' → sp_RC La s' z → Q (aSaid z k) s') : fX11_said La s k Q := by
  have H' := H
  rw [sp_RC_eq] at H'
  obtain ⟨-, -, ⟨n1, n2, n3, -, -⟩, -, -, -, -, -, -, -, -, -, hKt⟩ := H'
  have r2 := n3.1.2
  have hlen := hw.2.2.1.2.2.1
  unfold aSaid at h
  refine ⟨by omega, fun c => ?_, fun c => ?_⟩
  · obtain ⟨-, ln1, ln2, ln3, hc⟩ := n3
    rcases hc with hc | ⟨-, S, K, G, M, hS, -⟩
    · exact absurd hc.2 c
    · rw [hS] at h
      dsimp only at h
      have fin : ∀ t, (∀ c i : Int, c < 32 ∨ (36 < c ∧ c < 62) ∨ 63 < c → t c i = s c i) → sp_RC La t z → sp_rw t 62 (sTk z S) → ((k ≠ (-1) → fX4_at La t 62 k (fun u10 => Q u10 t)) ∧ (k = (-1) → Q (t 62 1) t)) := by
        intro t ft ht rt
        have h := h t (fun c i w1 w2 => ft c i (by omega)) ht
        have ll : (sTk z S).length ≤ (nHa (zN z)).length := sp_tk_len _ _ _ _ _
        refine ⟨fun ck => ?_, fun ck => ?_⟩
        · rw [if_neg ck] at h
          exact tX4_at (c := 200) (sp_ln hst 63 10200 rfl) (by omega) rt.1 (by omega) rt.2 h
        · rw [if_pos ck] at h
          rw [rt.1]; exact h
      refine ⟨fun c0 => tX4_clear ⟨(nHa (zN z)).length + 1, ?_⟩, fun c0 => fin s (fun _ _ _ => rfl) H (hKt c0 S hS)⟩
      refine tq_skL hst h89 hw H hS fin (nHa (zN z)) (nHb (zN z)) 1 [] _ (by omega) (by omega) hw.2.2.1.2.1 ?_ ?_ hw.2.2.1.2.2.2.1 hw.2.2.1.2.2.2.2.1 (fun c i w => by rw [sg_upN _ (by omega)]) (by rw [sg_upN _ (by omega)]; exact c0) (sp_rw_nil _ _) (by simp) rfl
      · exact n2.2.2.1
      · exact n2.2.2.2
  · obtain ⟨-, ln1, ln2, ln3, hc⟩ := n3
    rcases hc with hc | ⟨h1, -⟩
    · rw [hc.1] at h
      exact h s (fun _ _ _ _ => rfl) H
    · omega
theorem tq_saL {S : (Int → Int) → Bool} {k : Int} {Q : Int → sg_M → Prop} (hw : sp_wZ z) (hN : sp_mN (s 66) (zN z)) (hS : nC (zN z) = some S) (hk : -1 ≤ k)
    (h : ∀ t, sp_F3 s t → sp_R0 t z → Q (if k = -1 then ((sTk z S).length : Int) else sp_at (sTk z S) k) t) :
    ∀ (A D : List Int) (x : Int) (V : List Int) (t : sg_M), 1 ≤ x → x - 1 + A.length = (nHa (zN z)).length → A.length = D.length → sg_ar (fun i => s 66 (1301 + i)) (x - 1) A → sg_ar (fun i => s 66 (1501 + i)) (x - 1) D → sp_bd A → sp_bd D → sp_F3 s t → sp_R0 t z → (V.length : Int) ≤ x - 1 → (k = -1 ∨ (V.length : Int) ≤ k) → V ++ sp_tk (nB (zN z)) S A D x = sTk z S →
      fX12_said_L31 k Q (fun s_107e31 x2_107e31 => ((k ≠ (-1) → Q (-1) s_107e31) ∧ (k = (-1) → Q x2_107e31 s_107e31))) (A.length + 1) t V.length x
  | [], D, x, V, t, hx, hl, hAD, hA, hD, bA, bD, hF, HR, lV, hkV, eV => by
    have f66 : t 66 = s 66 := funext fun i => hF 66 i (by omega) (by omega)
    simp only [List.length_nil] at hl
    rw [List.length_nil, fX12_said_L31, f66, hN.2.1.1]
    refine ⟨fun _ => ?_, fun c => absurd (show ((nHa (zN z)).length : Int) < x by omega) c⟩
    have e0 : sp_tk (nB (zN z)) S [] D x = [] := by simp [sp_tk]
    rw [e0, List.append_nil] at eV
    have h := h t hF HR
    rw [← eV] at h
    refine ⟨fun c => ?_, fun c => ?_⟩
    · rw [if_neg c, sp_at_out (Or.inr (by omega))] at h; exact h
    · rw [if_pos c] at h; exact h
  | a :: A, [], x, V, t, hx, hl, hAD, hA, hD, bA, bD, hF, HR, lV, hkV, eV => by simp at hAD
  | a :: A, d :: D, x, V, t, hx, hl, hAD, hA, hD, bA, bD, hF, HR, lV, hkV, eV => by
    have hlen := hw.2.2.1.2.2.1
    have f66 : t 66 = s 66 := funext fun i => hF 66 i (by omega) (by omega)
    simp only [List.length_cons] at hl hAD
    rw [List.length_cons, fX12_said_L31, f66, hN.2.1.1]
    have ea : s 66 (1301 + x - 1) = a := by
      have := hA.1
      dsimp only at this
      rw [show 1301 + (x - 1) = 1301 + x - 1 by omega] at this; exact this
    have ed : s 66 (1501 + x - 1) = d := by
      have := hD.1
      dsimp only at this
      rw [show 1501 + (x - 1) = 1501 + x - 1 by omega] at this; exact this
    rw [ea, ed]
    refine ⟨fun c => absurd c (by omega), fun _ => ⟨by omega, by omega, ?_⟩⟩
    refine sp_mv hw HR (bA a List.mem_cons_self) (bD d List.mem_cons_self) (fun t2 f2 HR2 hbt hv => ?_)
    have F2 : sp_F3 s t2 := fun c i w1 w2 => by rw [f2 c i w1 w2]; exact hF c i w1 w2
    have f66' : t2 66 = s 66 := funext fun i => F2 66 i (by omega) (by omega)
    have hC := hN.2.2.1
    rcases hC with hC | ⟨hC0, S', hS', hev⟩
    · rw [hS] at hC; exact absurd hC.1 (by intro w; cases w)
    · rw [hS] at hS'
      cases hS'
      have ev := sp_ev_le (hev (sp_en (nB (zN z)) a d x)) 10
      rw [← f66'] at ev
      refine tX12_isSo hbt hv 60 _ _ _ ev ?_
      have etk : sp_tk (nB (zN z)) S (a :: A) (d :: D) x = if S (sp_en (nB (zN z)) a d x) then x :: sp_tk (nB (zN z)) S A D (x + 1) else sp_tk (nB (zN z)) S A D (x + 1) := by rw [sp_tk]
      rw [etk] at eV
      have tA : sg_ar (fun i => s 66 (1301 + i)) (x + 1 - 1) A := by
        have := hA.2
        rw [show x - 1 + 1 = x + 1 - 1 by omega] at this; exact this
      have tD : sg_ar (fun i => s 66 (1501 + i)) (x + 1 - 1) D := by
        have := hD.2
        rw [show x - 1 + 1 = x + 1 - 1 by omega] at this; exact this
      have ih := fun V' l1 l2 l3 => tq_saL hw hN hS hk h A D (x + 1) V' t2 (by omega) (by omega) (by omega) tA tD (fun y hy => bA y (List.mem_cons_of_mem _ hy)) (fun y hy => bD y (List.mem_cons_of_mem _ hy)) F2 HR2 l1 l2 l3
      rcases hb : S (sp_en (nB (zN z)) a d x) with _ | _
      · rw [hb] at eV
        refine ⟨fun c => absurd rfl c, fun _ => ⟨by omega, ih V (by omega) hkV eV⟩⟩
      · rw [hb] at eV
        refine ⟨fun _ => ⟨fun c => ⟨by omega, by omega, ?_⟩, fun c => ?_⟩, fun c => absurd (show (1 : Int) = 0 from c) (by omega)⟩
        · have := ih (V ++ [x]) (by simp; omega) (by simp; omega) (by rw [List.append_assoc]; exact eV)
          rw [show (((V ++ [x]).length : Nat) : Int) = (V.length : Int) + 1 by simp] at this
          exact this
        · have h := h t2 F2 HR2
          have e : sp_at (sTk z S) k = x := by
            rw [← eV, ← c]
            exact sp_at_mid V x _
          rw [if_neg (by omega), e] at h
          exact h
theorem k2Said {k : Int} {Q : Int → sg_M → Prop} (hw : sp_wZ z) (H : sp_RM s z) (h : ∀ s', sp_FC s s' → sp_RM s' z → Q (aSaid z k) s') : fX12_said s k Q := by
  obtain ⟨H0, h20, F0, -⟩ := sp_go H
  intro s1 h1
  rw [← h1] at H0 F0 h20
  unfold aSaid at h
  refine tX12_lay ?_
  have hN := H0.2.2.1
  have hC := hN.2.2.1
  refine ⟨fun c => ?_, fun c => ?_⟩
  · rcases hC with hC | ⟨hC0, -⟩
    · rw [hC.1] at h
      exact h _ F0 (sp_RM_of H0 h20)
    · exact absurd c hC0
  · rcases hC with hC | ⟨hC0, S, hS, -⟩
    · exact absurd hC.2 c
    · rw [hS] at h
      dsimp only at h
      refine ⟨fun ck => ⟨(nHa (zN z)).length + 1, ?_⟩, fun ck => ?_⟩
      · have := tq_saL (Q := Q) hw hN hS ck (fun t ft ht => h t (fun c i w => by rw [ft c i (by omega) (by omega)]; exact F0 c i w) (sp_RM_of ht (by rw [ft 64 20 (by omega) (by omega)]; exact h20))) (nHa (zN z)) (nHb (zN z)) 1 [] (sp_ly s1) (by omega) (by omega) hw.2.2.1.2.1 hN.2.1.2.1 hN.2.1.2.2 hw.2.2.1.2.2.2.1 hw.2.2.1.2.2.2.2.1 (fun _ _ _ _ => rfl) H0 (by simp) (by simp; omega) rfl
        exact this
      · have h := h _ F0 (sp_RM_of H0 h20)
        rw [if_neg (by omega), sp_at_out (Or.inl (by omega))] at h
        exact h
end SGKt
