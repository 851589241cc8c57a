/-! LEVEL 2: a hand is read, as a function of the text; the class's side. -/
noncomputable section SGHa
/-- ticks (knees, tips), and where the hand is -/
abbrev sp_hh : Type := (List Int × List Int) × Int × Int
def hTl (f : Int → Int) : Nat → List Int
  | 0 => []
  | m + 1 => hTl f m ++ [f ((m : Int) + 1)]
def hMv (g : sp_hh) (x y t : Int) : sp_hh := if 1 ≤ t then ((g.1.1 ++ hTl (fun j => sp_ge g.2.1 x j t) t.toNat, g.1.2 ++ hTl (fun j => sp_ge g.2.2 y j t) t.toNat), x, y) else g
def hSk (b by' j : Int) : Int := if Int.tmod j 4 = 1 then sp_wi (b + by') else if Int.tmod j 4 = 3 then sp_wi (b - by') else b
def hSh (g : sp_hh) (by' t : Int) : sp_hh := ((g.1.1 ++ hTl (fun _ => g.2.1) t.toNat, g.1.2 ++ hTl (fun j => hSk g.2.2 by' j) t.toNat), g.2)
def hI (g : sp_hh) : Prop := g.1.1.length = g.1.2.length ∧ g.1.1.length ≤ 200 ∧ sp_bd g.1.1 ∧ sp_bd g.1.2 ∧ (-9999 ≤ g.2.1 ∧ g.2.1 ≤ 9999) ∧ (-9999 ≤ g.2.2 ∧ g.2.2 ≤ 9999)
variable (T : List Int) (lim : Int)
def hRoom (g : sp_hh) : Int := 200 - (g.1.1.length : Int)
def hTv (g : sp_hh) (r : sp_rp) : Int := pNv T lim 1 99 (hRoom g) r
def hTr (g : sp_hh) (r : sp_rp) : sp_rp := pNm T lim 1 99 (hRoom g) r
def hTo (g : sp_hh) (x y : Int) (r : sp_rp) : sp_hh × sp_rp := (hMv g x y (hTv T lim g (pMw T lim 7 r)), hTr T lim g (pMw T lim 7 r))
def hSa (g : sp_hh) (v : Int) (r : sp_rp) : sp_hh × sp_rp := (hSh g v (hTv T lim g (pMw T lim 7 r)), hTr T lim g (pMw T lim 7 r))
def hLn (g : sp_hh) (r : sp_rp) : sp_hh × sp_rp :=
  if pWd T lim 5 r = 0 then (if pWd T lim 6 r = 0 then (if pWd T lim 8 r = 0 then (if pWd T lim 9 r = 0 then (g, pFl T lim 1 r)
    else (hMv g g.2.1 g.2.2 (hTv T lim g (pAd T r)), hTr T lim g (pAd T r)))
    else hSa T lim g (pNv T lim 0 999 999 (pAd T r)) (pNm T lim 0 999 999 (pAd T r)))
    else hTo T lim g (pSv T lim 9999 (pAd T r)) (pSv T lim 9999 (pSm T lim 9999 (pAd T r))) (pSm T lim 9999 (pSm T lim 9999 (pAd T r))))
    else ((g.1, pSv T lim 9999 (pAd T r), pSv T lim 9999 (pSm T lim 9999 (pAd T r))), pSm T lim 9999 (pSm T lim 9999 (pAd T r)))
def hLs : Nat → sp_hh → sp_rp → sp_hh × sp_rp
  | 0, g, r => (g, r)
  | n + 1, g, r => if pGo T lim r = 0 then (g, r) else hLs n (hLn T lim g r).1 (pMs T lim 59 (hLn T lim g r).2)
end SGHa
noncomputable section SGHb
variable {T : List Int} {lim : Int} {r : sp_rp} {s : sg_M} {g : sp_hh}
theorem hTl_len (f : Int → Int) : ∀ m : Nat, (hTl f m).length = m
  | 0 => rfl
  | m + 1 => by rw [hTl, List.length_append, hTl_len f m]; rfl
theorem hTl_bd {f : Int → Int} : ∀ m : Nat, (∀ j : Int, 1 ≤ j → j ≤ m → -9999 ≤ f j ∧ f j ≤ 9999) → sp_bd (hTl f m)
  | 0, _ => fun x hx => by simp [hTl] at hx
  | m + 1, h => by
    have k := hTl_bd m (fun j q1 q2 => h j q1 (by omega))
    rw [hTl]
    exact sp_bd_snoc k (h _ (by omega) (by omega))
theorem sp_bd_app {l m : List Int} (h1 : sp_bd l) (h2 : sp_bd m) : sp_bd (l ++ m) := fun x hx => (List.mem_append.mp hx).elim (h1 x) (h2 x)
theorem hMv_I {x y t : Int} (h : hI g) (hx : -9999 ≤ x ∧ x ≤ 9999) (hy : -9999 ≤ y ∧ y ≤ 9999) (ht : (g.1.1.length : Int) + t ≤ 200) : hI (hMv g x y t) := by
  obtain ⟨h1, h2, h3, h4, h5, h6⟩ := h
  unfold hMv; split
  · rename_i g1
    refine ⟨?_, ?_, ?_, ?_, hx, hy⟩
    · simp only [List.length_append, hTl_len]; omega
    · simp only [List.length_append, hTl_len]; omega
    · exact sp_bd_app h3 (hTl_bd _ (fun j q1 q2 => sp_ge_bd h5 hx (by omega) (by omega) (by omega)))
    · exact sp_bd_app h4 (hTl_bd _ (fun j q1 q2 => sp_ge_bd h6 hy (by omega) (by omega) (by omega)))
  · exact ⟨h1, h2, h3, h4, h5, h6⟩
theorem hSk_rg {b v j : Int} (hb : -9999 ≤ b ∧ b ≤ 9999) : -9999 ≤ hSk b v j ∧ hSk b v j ≤ 9999 := by
  have h1 := sp_wi_rg (b + v)
  have h2 := sp_wi_rg (b - v)
  unfold hSk; (repeat' split) <;> omega
theorem hSh_I {v t : Int} (h : hI g) (h0 : 0 ≤ t) (ht : (g.1.1.length : Int) + t ≤ 200) : hI (hSh g v t) := by
  obtain ⟨h1, h2, h3, h4, h5, h6⟩ := h
  refine ⟨?_, ?_, ?_, ?_, h5, h6⟩
  · show (g.1.1 ++ hTl (fun _ => g.2.1) t.toNat).length = (g.1.2 ++ hTl (fun j => hSk g.2.2 v j) t.toNat).length
    simp only [List.length_append, hTl_len]; omega
  · show (g.1.1 ++ hTl (fun _ => g.2.1) t.toNat).length ≤ 200
    simp only [List.length_append, hTl_len]; omega
  · exact sp_bd_app h3 (hTl_bd _ (fun j q1 q2 => h5))
  · exact sp_bd_app h4 (hTl_bd _ (fun j q1 q2 => hSk_rg h6))
/-- the class's hand in cell o -/
def sp_cHh (s : sg_M) (o : Int) (g : sp_hh) : Prop := s o 2 = g.1.1.length ∧ sg_ar (s (o + 1)) 0 g.1.1 ∧ sg_ar (s (o + 2)) 0 g.1.2 ∧ s o 3 = g.2.1 ∧ s o 4 = g.2.2
theorem sp_cHh_kp {t : sg_M} {o : Int} (h : sp_cHh s o g) (e : ∀ c i, o ≤ c → c ≤ o + 2 → t c i = s c i) : sp_cHh t o g := by
  obtain ⟨h1, h2, h3, h4, h5⟩ := h
  exact ⟨by rw [e o 2 (by omega) (by omega)]; exact h1, sg_ar_congr _ 0 (fun i _ _ => (e _ i (by omega) (by omega)).symm) h2, sg_ar_congr _ 0 (fun i _ _ => (e _ i (by omega) (by omega)).symm) h3, by rw [e o 3 (by omega) (by omega)]; exact h4, by rw [e o 4 (by omega) (by omega)]; exact h5⟩
abbrev sp_hF (o : Int) (s t : sg_M) : Prop := ∀ c i, (c = 3 → i < 2) → (c < o ∨ o + 2 < c) → t c i = s c i
theorem tX3_pass {o x y : Int} {A D : List Int} {a b : Int} {Q : sg_M → Prop} (h : sp_cHh s o ((A, D), a, b)) (hl : A.length = D.length) (h200 : A.length < 200) (hQ : ∀ u, (∀ c i, (c < o ∨ o + 2 < c) → u c i = s c i) → sp_cHh u o ((A ++ [x], D ++ [y]), a, b) → Q u) : fX3_pass s o x y Q := by
  obtain ⟨h1, h2, h3, h4, h5⟩ := h
  have h1 : s o 2 = A.length := h1
  refine ⟨fun q => absurd q (by omega), fun _ => ⟨fun q => absurd q (by omega), fun _ => ⟨by omega, fun s8 e8 => ?_⟩⟩⟩
  have a8 : s8 o 2 = A.length := by rw [e8, sg_upN _ (by omega)]; exact h1
  rw [a8]
  refine ⟨by omega, fun s13 e13 => ?_⟩
  have a13 : s13 o 2 = A.length := by rw [e13, sg_upN _ (by omega)]; exact a8
  rw [a13]
  refine ⟨by omega, fun s17 e17 => hQ s17 (fun c i z => by rw [e17, sg_upN _ (by omega), e13, sg_upN _ (by omega), e8, sg_upN _ (by omega)]) ⟨?_, ?_, ?_, ?_, ?_⟩⟩
  · rw [e17, sg_upS]; simp
  · refine sg_ar_snoc _ 0 (sg_ar_congr _ 0 (fun i q1 q2 => ?_) h2) ?_
    · change i < 0 + (A.length : Int) at q2
      rw [e17, sg_upN _ (by omega), e13, sg_upN _ (by omega), e8, sg_upN _ (by omega)]
    · show s17 (o + 1) (0 + (A.length : Int)) = x
      rw [Int.zero_add, e17, sg_upN _ (by omega), e13, sg_upN _ (by omega), e8, h1, sg_upS]
  · refine sg_ar_snoc _ 0 (sg_ar_congr _ 0 (fun i q1 q2 => ?_) h3) ?_
    · change i < 0 + (D.length : Int) at q2
      rw [e17, sg_upN _ (by omega), e13, sg_upN _ (by omega), e8, sg_upN _ (by omega)]
    · show s17 (o + 2) (0 + (D.length : Int)) = y
      rw [Int.zero_add, ← hl, e17, sg_upN _ (by omega), e13, sg_upS]
  · show s17 o 3 = a
    rw [e17, sg_upN _ (by omega), e13, sg_upN _ (by omega), e8, sg_upN _ (by omega)]; exact h4
  · show s17 o 4 = b
    rw [e17, sg_upN _ (by omega), e13, sg_upN _ (by omega), e8, sg_upN _ (by omega)]; exact h5
theorem tq_mvL {o x y t a b : Int} {A D : List Int} {Q : sg_M → Prop} {s0 : sg_M} (ho : 3 < o) (hl : A.length = D.length) (hA : (A.length : Int) + t ≤ 200) (ht : 1 ≤ t ∧ t ≤ 99) (ha : -9999 ≤ a ∧ a ≤ 9999) (hb : -9999 ≤ b ∧ b ≤ 9999) (hx : -9999 ≤ x ∧ x ≤ 9999) (hy : -9999 ≤ y ∧ y ≤ 9999)
    (hQ : ∀ u, (∀ c i, (c < o ∨ o + 2 < c) → u c i = s0 c i) → sp_cHh u o ((A ++ hTl (fun j => sp_ge a x j t) t.toNat, D ++ hTl (fun j => sp_ge b y j t) t.toNat), x, y) → Q u) :
    ∀ (r m : Nat) (u : sg_M), (m : Int) + r = t → (∀ c i, (c < o ∨ o + 2 < c) → u c i = s0 c i) → sp_cHh u o ((A ++ hTl (fun j => sp_ge a x j t) m, D ++ hTl (fun j => sp_ge b y j t) m), a, b) → fX3_move_L9 o x y t Q (r + 1) u ((m : Int) + 1)
  | 0, m, u, hm, hF, h => by
    rw [fX3_move_L9]
    refine ⟨fun _ s3 e3 s5 e5 => hQ s5 (fun c i z => by rw [e5, sg_upN _ (by omega), e3, sg_upN _ (by omega)]; exact hF c i z) ?_, fun q => absurd (show t < (m : Int) + 1 by omega) q⟩
    obtain ⟨h1, h2, h3, h4, h5⟩ := h
    have em : t.toNat = m := by omega
    rw [em]
    refine ⟨by rw [e5, sg_upN _ (by omega), e3, sg_upN _ (by omega)]; exact h1, sg_ar_congr _ 0 (fun i _ _ => by rw [e5, sg_upN _ (by omega), e3, sg_upN _ (by omega)]) h2, sg_ar_congr _ 0 (fun i _ _ => by rw [e5, sg_upN _ (by omega), e3, sg_upN _ (by omega)]) h3, ?_, ?_⟩
    · rw [e5, sg_upN _ (by omega), e3, sg_upS]
    · rw [e5, sg_upS]
  | r + 1, m, u, hm, hF, h => by
    have h4 : u o 3 = a := h.2.2.2.1
    have h5 : u o 4 = b := h.2.2.2.2
    have r1 := sp_ge_mu (p := (m : Int) + 1) ha hx (by omega) (by omega)
    have r2 := sp_ge_mu (p := (m : Int) + 1) hb hy (by omega) (by omega)
    have v1 := sp_ge_bd (p := (m : Int) + 1) (n := t) ha hx (by omega) (by omega) (by omega)
    have v2 := sp_ge_bd (p := (m : Int) + 1) (n := t) hb hy (by omega) (by omega) (by omega)
    rw [fX3_move_L9, h4, h5]
    refine ⟨fun q => absurd q (by omega), fun _ => ⟨r1, by omega, r2, by omega, ⟨by have := v1.1; unfold sp_ge at this; omega, by have := v1.2; unfold sp_ge at this; omega⟩, ⟨by have := v2.1; unfold sp_ge at this; omega, by have := v2.2; unfold sp_ge at this; omega⟩, ?_⟩⟩
    have e1 : hTl (fun j => sp_ge a x j t) (m + 1) = hTl (fun j => sp_ge a x j t) m ++ [sp_ge a x ((m : Int) + 1) t] := rfl
    have e2 : hTl (fun j => sp_ge b y j t) (m + 1) = hTl (fun j => sp_ge b y j t) m ++ [sp_ge b y ((m : Int) + 1) t] := rfl
    refine tX3_pass h ?_ ?_ (fun v fv hv => ⟨by omega, ?_⟩)
    · simp only [List.length_append, hTl_len]; omega
    · simp only [List.length_append, hTl_len]; omega
    · refine tq_mvL ho hl hA ht ha hb hx hy hQ r (m + 1) v (by omega) (fun c i z => by rw [fv c i z]; exact hF c i z) ?_
      rw [e1, e2, ← List.append_assoc, ← List.append_assoc]; exact hv
theorem tX3_move {o x y t : Int} {Q : sg_M → Prop} (ho : 3 < o) (h : sp_cHh s o g) (hi : hI g) (ht : t ≤ 99 ∧ (g.1.1.length : Int) + t ≤ 200) (hx : -9999 ≤ x ∧ x ≤ 9999) (hy : -9999 ≤ y ∧ y ≤ 9999)
    (hQ : ∀ u, (∀ c i, (c < o ∨ o + 2 < c) → u c i = s c i) → sp_cHh u o (hMv g x y t) → Q u) : fX3_move s o x y t Q := by
  unfold hMv at hQ
  refine ⟨fun q => ?_, fun q => ?_⟩
  · rw [if_pos q] at hQ
    refine ⟨t.toNat + 1, ?_⟩
    have := tq_mvL (s0 := s) (A := g.1.1) (D := g.1.2) (a := g.2.1) (b := g.2.2) ho hi.1 ht.2 ⟨q, ht.1⟩ hi.2.2.2.2.1 hi.2.2.2.2.2 hx hy hQ t.toNat 0 s (by omega) (fun _ _ _ => rfl) (by simp only [hTl, List.append_nil]; exact h)
    exact this
  · rw [if_neg q] at hQ
    exact hQ s (fun _ _ _ => rfl) h
theorem tX11_withinF {x : Int} {Q : Int → Prop} (hx : -100000 ≤ x ∧ x ≤ 100000) (h : Q (sp_wi x)) : fX11_within x 9999 Q := by
  unfold fX11_within
  exact ⟨by omega, h⟩
theorem tq_shL {o v t a b : Int} {A D : List Int} {Q : sg_M → Prop} {s0 : sg_M} (ho : 3 < o) (hl : A.length = D.length) (hA : (A.length : Int) + t ≤ 200) (ht : 0 ≤ t ∧ t ≤ 99) (hv : 0 ≤ v ∧ v ≤ 9999) (hb : -9999 ≤ b ∧ b ≤ 9999)
    (hQ : ∀ u, (∀ c i, (c < o ∨ o + 2 < c) → u c i = s0 c i) → sp_cHh u o ((A ++ hTl (fun _ => a) t.toNat, D ++ hTl (fun j => hSk b v j) t.toNat), a, b) → Q u) :
    ∀ (r m : Nat) (u : sg_M), (m : Int) + r = t → (∀ c i, (c < o ∨ o + 2 < c) → u c i = s0 c i) → sp_cHh u o ((A ++ hTl (fun _ => a) m, D ++ hTl (fun j => hSk b v j) m), a, b) → fX3_shake_L2 o v t Q (r + 1) u ((m : Int) + 1)
  | 0, m, u, hm, hF, h => by
    rw [fX3_shake_L2]
    have em : t.toNat = m := by omega
    rw [em] at hQ
    exact ⟨fun _ => hQ u hF h, fun q => absurd (show t < (m : Int) + 1 by omega) q⟩
  | r + 1, m, u, hm, hF, h => by
    have h4 : u o 3 = a := h.2.2.2.1
    have h5 : u o 4 = b := h.2.2.2.2
    have m4 : 0 ≤ Int.tmod ((m : Int) + 1) 4 ∧ Int.tmod ((m : Int) + 1) 4 < 4 := ⟨Int.tmod_nonneg _ (by omega), Int.tmod_lt_of_pos _ (by omega)⟩
    have e1 : hTl (fun _ => a) (m + 1) = hTl (fun _ => a) m ++ [a] := rfl
    have e2 : hTl (fun j => hSk b v j) (m + 1) = hTl (fun j => hSk b v j) m ++ [hSk b v ((m : Int) + 1)] := rfl
    have go : ∀ off, -9999 ≤ off → off ≤ 9999 → sp_wi (b + off) = hSk b v ((m : Int) + 1) → fX3_shake_j34 o u ((m : Int) + 1) (fX3_shake_L2 o v t Q (r + 1)) off := by
      intro off o1 o2 eo
      unfold fX3_shake_j34
      rw [h4, h5]
      refine ⟨by omega, tX11_withinF (by omega) ?_⟩
      rw [eo]
      refine tX3_pass h ?_ ?_ (fun w fw hw => ⟨by omega, ?_⟩)
      · simp only [List.length_append, hTl_len]; omega
      · simp only [List.length_append, hTl_len]; omega
      · refine tq_shL ho hl hA ht hv hb hQ r (m + 1) w (by omega) (fun c i z => by rw [fw c i z]; exact hF c i z) ?_
        rw [e1, e2, ← List.append_assoc, ← List.append_assoc]; exact hw
    rw [fX3_shake_L2]
    refine ⟨fun q => absurd q (by omega), fun _ => ⟨by omega, fun q => ⟨by omega, fun q2 => go 0 (by omega) (by omega) ?_, fun q2 => ⟨by omega, go (-v) (by omega) (by omega) ?_⟩⟩, fun q => go v (by omega) (by omega) ?_⟩⟩
    · unfold hSk; rw [if_neg q, if_neg q2, Int.add_zero]; exact sp_wi_id hb
    · unfold hSk; rw [if_neg q, if_pos q2, Int.sub_eq_add_neg]
    · unfold hSk; rw [if_pos q]
theorem tX3_shake {o v t : Int} {Q : sg_M → Prop} (ho : 3 < o) (h : sp_cHh s o g) (hi : hI g) (ht : 0 ≤ t ∧ t ≤ 99 ∧ (g.1.1.length : Int) + t ≤ 200) (hv : 0 ≤ v ∧ v ≤ 9999)
    (hQ : ∀ u, (∀ c i, (c < o ∨ o + 2 < c) → u c i = s c i) → sp_cHh u o (hSh g v t) → Q u) : fX3_shake s o v t Q := by
  refine ⟨t.toNat + 1, ?_⟩
  exact tq_shL (s0 := s) (A := g.1.1) (D := g.1.2) (a := g.2.1) (b := g.2.2) ho hi.1 ht.2.2 ⟨ht.1, ht.2.1⟩ hv hi.2.2.2.2.2 hQ t.toNat 0 s (by omega) (fun _ _ _ => rfl) (by simp only [hTl, List.append_nil]; exact h)
theorem hTv_rg (hr : pIn T r) (hi : hI g) : 0 ≤ hTv T lim g r ∧ hTv T lim g r ≤ 99 ∧ (g.1.1.length : Int) + hTv T lim g r ≤ 200 := by
  have h2 := hi.2.1
  by_cases q : pOk (pNm T lim 1 99 (hRoom g) r) = 0
  · have e : hTv T lim g r = 0 := pNv_0 q
    rw [e]; omega
  · have h := pNm_ok1 q
    unfold hTv
    have e : hRoom g = 200 - (g.1.1.length : Int) := rfl
    omega
theorem tX3_readTicks {o : Int} {Q : Int → sg_M → Prop} (hq : sp_tq T lim) (H : sp_tC T lim r s) (hg : sp_cHh s o g) (hi : hI g) (h : ∀ t, (∀ c i, (c = 3 → i < 2) → t c i = s c i) → sp_tC T lim (hTr T lim g r) t → Q (hTv T lim g r) t) : fX3_readTicks s o Q := by
  have h2 := hi.2.1
  unfold fX3_readTicks
  rw [hg.1]
  exact ⟨by omega, tX9_number hq H h⟩
theorem sp_cHh_tF {t : sg_M} {o : Int} (h : sp_cHh s o g) (ho : 3 < o) (hF : ∀ c i, (c = 3 → i < 2) → t c i = s c i) : sp_cHh t o g := sp_cHh_kp h (fun c i z1 z2 => hF c i (by omega))
theorem tX3_readMove {o : Int} {Q : sg_M → Prop} (ho : 3 < o) (hq : sp_tq T lim) (H : sp_tC T lim r s) (hg : sp_cHh s o g) (hi : hI g)
    (h : ∀ t, sp_hF o s t → sp_tC T lim (hLn T lim g r).2 t → sp_cHh t o (hLn T lim g r).1 → hI (hLn T lim g r).1 → Q t) : fX3_readMove s o Q := by
  unfold hLn at h
  refine tX9_skipWord (r := r) hq (by omega) H (fun t1 f1 h1 => ?_)
  have g1 := sp_cHh_tF hg ho f1
  unfold pWk at h1
  refine ⟨fun q1 => ?_, fun q1 => ?_⟩
  · rw [if_pos q1] at h1 h
    refine tX9_skipWord hq (by omega) h1 (fun t2 f2 h2 => ?_)
    have g2 := sp_cHh_tF g1 ho f2
    unfold pWk at h2
    refine ⟨fun q2 => ?_, fun q2 => ?_⟩
    · rw [if_pos q2] at h2 h
      refine tX9_skipWord hq (by omega) h2 (fun t3 f3 h3 => ?_)
      have g3 := sp_cHh_tF g2 ho f3
      unfold pWk at h3
      refine ⟨fun q3 => ?_, fun q3 => ?_⟩
      · rw [if_pos q3] at h3 h
        refine tX9_skipWord hq (by omega) h3 (fun t4 f4 h4 => ?_)
        have g4 := sp_cHh_tF g3 ho f4
        have F4 : ∀ c i, (c = 3 → i < 2) → t4 c i = s c i := fun c i z => by rw [f4 c i z, f3 c i z, f2 c i z]; exact f1 c i z
        unfold pWk at h4
        refine ⟨fun q4 => ?_, fun q4 => ?_⟩
        · rw [if_pos q4] at h4 h
          exact tX9_fail hq h4 (by omega) (fun t ft ht => h t (fun c i z1 _ => by rw [ft c i z1]; exact F4 c i z1) ht (sp_cHh_tF g4 ho ft) hi)
        · rw [if_neg q4] at h4 h
          have rv := hTv_rg (T := T) (lim := lim) h4.2.1 hi
          refine tX3_readTicks hq h4 g4 hi (fun t5 f5 h5 => ?_)
          have e3 : t4 o 3 = g.2.1 := g4.2.2.2.1
          have e4 : t4 o 4 = g.2.2 := g4.2.2.2.2
          rw [e3, e4]
          refine tX3_move ho (sp_cHh_tF g4 ho f5) hi rv.2 hi.2.2.2.2.1 hi.2.2.2.2.2 (fun u fu hu => h u (fun c i z1 z2 => by rw [fu c i z2, f5 c i z1]; exact F4 c i z1) (sp_tC_kp h5 (fun c i z => fu c i (by omega))) hu (hMv_I hi hi.2.2.2.2.1 hi.2.2.2.2.2 rv.2.2))
      · rw [if_neg q3] at h3 h
        have rn := pNv_rg (T := T) (lim := lim) 0 999 999 h3.2.1
        refine tX9_number hq h3 (fun t4 f4 h4 => tX9_mustBeWord hq (by omega) h4 (fun t5 f5 h5 => ?_))
        have g5 := sp_cHh_tF (sp_cHh_tF g3 ho f4) ho f5
        have F5 : ∀ c i, (c = 3 → i < 2) → t5 c i = s c i := fun c i z => by rw [f5 c i z, f4 c i z, f3 c i z, f2 c i z]; exact f1 c i z
        have rv := hTv_rg (T := T) (lim := lim) h5.2.1 hi
        refine tX3_readTicks hq h5 g5 hi (fun t6 f6 h6 => ?_)
        refine tX3_shake ho (sp_cHh_tF g5 ho f6) hi rv rn (fun u fu hu => h u (fun c i z1 z2 => by rw [fu c i z2, f6 c i z1]; exact F5 c i z1) (sp_tC_kp h6 (fun c i z => fu c i (by omega))) hu (hSh_I hi rv.1 rv.2.2))
    · rw [if_neg q2] at h2 h
      refine tX9_skipSign hq h2 (fun t3 f3 h3 => tX9_number hq h3 (fun t4 f4 h4 => ?_))
      have n3 := pNv_rg (T := T) (lim := lim) 0 9999 9999 h3.2.1
      refine tX11_signed (by omega) (tX9_skipSign hq h4 (fun t5 f5 h5 => tX9_number hq h5 (fun t6 f6 h6 => ?_)))
      have n5 := pNv_rg (T := T) (lim := lim) 0 9999 9999 h5.2.1
      refine tX11_signed (by omega) (tX9_mustBeWord hq (by omega) h6 (fun t7 f7 h7 => ?_))
      have g7 := sp_cHh_tF (sp_cHh_tF (sp_cHh_tF (sp_cHh_tF (sp_cHh_tF g2 ho f3) ho f4) ho f5) ho f6) ho f7
      have F7 : ∀ c i, (c = 3 → i < 2) → t7 c i = s c i := fun c i z => by rw [f7 c i z, f6 c i z, f5 c i z, f4 c i z, f3 c i z, f2 c i z]; exact f1 c i z
      have rv := hTv_rg (T := T) (lim := lim) h7.2.1 hi
      have s1 := pSv_rg (most := 9999) h2.2.1 h3.2.1
      have s2 := pSv_rg (most := 9999) h4.2.1 h5.2.1
      refine tX3_readTicks hq h7 g7 hi (fun t8 f8 h8 => ?_)
      refine tX3_move ho (sp_cHh_tF g7 ho f8) hi rv.2 s1 s2 (fun u fu hu => h u (fun c i z1 z2 => by rw [fu c i z2, f8 c i z1]; exact F7 c i z1) (sp_tC_kp h8 (fun c i z => fu c i (by omega))) hu (hMv_I hi s1 s2 rv.2.2))
  · rw [if_neg q1] at h1 h
    refine tX9_skipSign hq h1 (fun t3 f3 h3 => tX9_number hq h3 (fun t4 f4 h4 => ?_))
    have n3 := pNv_rg (T := T) (lim := lim) 0 9999 9999 h3.2.1
    have s1 := pSv_rg (most := 9999) h1.2.1 h3.2.1
    refine tX11_signed (by omega) (fun s61 e61 => ?_)
    have h61 : sp_tC T lim (pSm T lim 9999 (pAd T r)) s61 := sp_tC_kp h4 (fun c i z => by rw [e61, sg_upN _ (by omega)])
    refine tX9_skipSign hq h61 (fun t5 f5 h5 => tX9_number hq h5 (fun t6 f6 h6 => ?_))
    have n5 := pNv_rg (T := T) (lim := lim) 0 9999 9999 h5.2.1
    have s2 := pSv_rg (most := 9999) h61.2.1 h5.2.1
    refine tX11_signed (by omega) (fun s71 e71 => ?_)
    have g4 := sp_cHh_tF (sp_cHh_tF g1 ho f3) ho f4
    have G : ∀ c i, o ≤ c → c ≤ o + 2 → (c = o → i ≠ 3 ∧ i ≠ 4) → s71 c i = t4 c i := fun c i z1 z2 z3 => by rw [e71, sg_upN _ (by omega), f6 c i (by omega), f5 c i (by omega), e61, sg_upN _ (by omega)]
    refine h s71 (fun c i z1 z2 => ?_) (sp_tC_kp h6 (fun c i z => by rw [e71, sg_upN _ (by omega)])) ⟨?_, ?_, ?_, ?_, ?_⟩ ⟨hi.1, hi.2.1, hi.2.2.1, hi.2.2.2.1, s1, s2⟩
    · rw [e71, sg_upN _ (by omega), f6 c i z1, f5 c i z1, e61, sg_upN _ (by omega), f4 c i z1, f3 c i z1]; exact f1 c i z1
    · rw [G o 2 (by omega) (by omega) (by omega)]; exact g4.1
    · exact sg_ar_congr _ 0 (fun i _ _ => (G _ i (by omega) (by omega) (by omega)).symm) g4.2.1
    · exact sg_ar_congr _ 0 (fun i _ _ => (G _ i (by omega) (by omega) (by omega)).symm) g4.2.2.1
    · rw [e71, sg_upN _ (by omega), f6 o 3 (by omega), f5 o 3 (by omega), e61, sg_upS]; rfl
    · rw [e71, sg_upS]; rfl
theorem tq_hLL {o : Int} {K : sg_M → Prop} {s0 : sg_M} (ho : 3 < o) (hq : sp_tq T lim) {p : sp_hh × sp_rp} (h : ∀ t, sp_hF o s0 t → sp_tC T lim p.2 t → sp_cHh t o p.1 → hI p.1 → K t) :
    ∀ (n : Nat) (j : Int) (g : sp_hh) (r : sp_rp) (t : sg_M), j + n = 540 → 0 ≤ j → hLs T lim n g r = p → sp_hF o s0 t → sp_tC T lim r t → sp_cHh t o g → hI g → fX3_readFrom_L2 o K (n + 1) t j
  | 0, j, g, r, t, hj, h0, hp, hF, H, hg, hi => by
    rw [hLs] at hp
    subst hp
    rw [fX3_readFrom_L2]
    exact ⟨fun _ => h t hF H hg hi, fun q => absurd (show (540 : Int) ≤ j by omega) q⟩
  | n + 1, j, g, r, t, hj, h0, hp, hF, H, hg, hi => by
    rw [hLs] at hp
    rw [fX3_readFrom_L2]
    refine ⟨fun q => absurd q (by omega), fun _ => tX9_isGoingOn H ⟨fun q => ?_, fun q => ?_⟩⟩
    · rw [if_pos q] at hp
      subst hp
      exact h t hF H hg hi
    · rw [if_neg q] at hp
      refine tX3_readMove ho hq H hg hi (fun t1 f1 h1 b1 i1 => tX9_mustBeSign hq h1 (fun t2 f2 h2 => ⟨by omega, ?_⟩))
      exact tq_hLL ho hq h n (j + 1) _ _ t2 (by omega) (by omega) hp (fun c i z1 z2 => by rw [f2 c i z1, f1 c i z1 z2]; exact hF c i z1 z2) h2 (sp_cHh_tF b1 ho f2) i1
def pHd (z : sp_Z) : sp_hh × sp_rp := hLs (zT z) 300 540 (([], []), 0, 0) (.inr 0)
def sp_yH (N : sp_N) (A D : List Int) : sp_N := (nB N, (A, D), (nKa N, nKb N), nS N, nC N)
def aHand (z : sp_Z) : Int := match (pHd z).2 with
  | .inl f => -1 - f.2
  | .inr _ => (pHd z).1.1.1.length
def yHand (z : sp_Z) : sp_Z := match (pHd z).2 with
  | .inl f => zTF z f.1
  | .inr _ => zN' (zTF z 0) (sp_yH (zN z) (pHd z).1.1.1 (pHd z).1.1.2)
theorem hI0 : hI (([], []), 0, 0) := ⟨rfl, by show (0 : Nat) ≤ 200; omega, fun x hx => absurd hx (by intro z; cases z), fun x hx => absurd hx (by intro z; cases z), by show (-9999 : Int) ≤ 0 ∧ (0 : Int) ≤ 9999; omega, by show (-9999 : Int) ≤ 0 ∧ (0 : Int) ≤ 9999; omega⟩
theorem k1Hand {La : sg_L} {z : sp_Z} {Q : Int → sg_L → sg_M → Prop} (h89 : 89 ≤ La.1) (hw : sp_wZ z) (H : sp_RC La s z) (h : ∀ La' s', sg_X La La' → La'.1 ≤ La.1 + 7 → sp_FM s s' → sp_RC La' s' (yHand z) → Q (aHand z) La' s') : fX11_hand La s Q := by
  have hq : sp_tq (zT z) 300 := sp_tq_z hw (by omega)
  intro q1 La2 hL2 s3 h3 o4 h4
  subst hL2; subst h3; subst h4
  refine tX3_new (fun La13 s14 X13 n13 k0 k13 f14 a4 a5 a6 => ?_)
  have hT14 : s14 1 1 = (zT z).length ∧ sg_ar (s14 2) 0 (zT z) := sp_kT H.1 (fun c i g => f14 c i (by omega))
  refine tX9_open hq hT14 (fun t1 f1 h1 => ?_)
  have hB1 : sp_cHh t1 La.1 (([], []), 0, 0) := by
    refine ⟨?_, trivial, trivial, ?_, ?_⟩
    · rw [f1 _ 2 (by omega)]; exact a4
    · rw [f1 _ 3 (by omega)]; exact a5
    · rw [f1 _ 4 (by omega)]; exact a6
  refine ⟨541, tq_hLL (o := (La.1 : Int)) (s0 := t1) (p := pHd z) (by omega) hq (fun t2 f2 h2 hB2 hI2 => ?_) 540 0 _ _ t1 (by omega) (by omega) rfl (fun _ _ _ _ => rfl) h1 hB1 hI0⟩
  have f : ∀ c i : Int, c ≠ 3 → c < La.1 → t2 c i = s c i := fun c i z1 z2 => by rw [f2 c i (by omega) (by omega), f1 c i (by omega)]; exact f14 c i z2
  have ok := sp_tC_ok h2
  have hx := X13.1
  unfold aHand yHand at h
  rcases hr : (pHd z).2 with fl | q
  · rw [hr] at h h2 ok
    refine ⟨fun g => ?_, fun g => absurd rfl (ok.mp g)⟩
    refine tX11_closeText (r := .inl fl) (N := zN z) H X13 h89 h2 hw.1 (fun c i z1 _ z3 => f c i z1 z3) (fun zz => absurd rfl zz) (fun u fu hu => ?_)
    exact h La13 u X13 (by omega) (fun c i z1 z2 => by rw [fu c i z1]; exact f c i (by omega) (by omega)) hu
  · rw [hr] at h h2 ok
    refine ⟨fun g => absurd (ok.mpr (show (1 : Int) ≠ 0 by omega)) g, fun g s31 e31 => ?_⟩
    have g31 : ∀ c i, (c = 4 → i ≠ 1) → s31 c i = t2 c i := fun c i zz => by rw [e31, sg_upN _ (by omega)]
    have hB3 : sp_cHh s31 La.1 (pHd z).1 := sp_cHh_kp hB2 (fun c i z1 z2 => g31 c i (by omega))
    rw [hB3.1]
    refine tX11_closeText (r := .inr q) (N := sp_yH (zN z) (pHd z).1.1.1 (pHd z).1.1.2) H X13 h89 (sp_tC_kp h2 (fun c i zz => g31 c i (by omega))) hw.1 (fun c i z1 z2 z3 => ?_) (fun _ u fu => ?_) (fun u fu hu => ?_)
    · have z4 : c = 4 → 2 < i := fun zz => (z2 zz).resolve_right (show ¬ (1 : Int) = 0 by omega)
      rw [g31 c i (by omega)]; exact f c i z1 z3
    · have H' := H
      rw [sp_RC_eq] at H'
      obtain ⟨-, -, ⟨n1, n2, n3, n4, n5⟩, hIm, -⟩ := H'
      have f' : ∀ c i : Int, c ≠ 0 → c ≠ 1 → c ≠ 3 → c ≠ 58 → c ≠ 62 → (c = 4 → i ≠ 1) → c < La.1 → u c i = s c i := fun c i z1 z2 z3 z4 z5 z6 z7 => by rw [fu c i z1 z2 z4 z5, g31 c i z6]; exact f c i z3 z7
      have f41 : u 4 1 = (La.1 : Int) := by rw [fu 4 1 (by omega) (by omega) (by omega) (by omega), e31, sg_upS]
      have hk : sp_kp La s u := ⟨fun c i hc => f' c i (by omega) (by omega) (by omega) (by omega) (by omega) (by omega) (by omega), fun j _ _ => Or.inl (f' 26 j (by omega) (by omega) (by omega) (by omega) (by omega) (by omega) (by omega))⟩
      refine ⟨?_, ?_, ?_, sp_cK_same n4 X13 (by omega) (by omega) (fun c i q1 q2 => f' c i (by omega) (by omega) (by omega) (by omega) (by omega) (by omega) (by omega)), sp_cF_same n5 X13 h89 hk (fun i => f' 25 i (by omega) (by omega) (by omega) (by omega) (by omega) (by omega) (by omega))⟩
      · rw [f' 4 0 (by omega) (by omega) (by omega) (by omega) (by omega) (by omega) (by omega)]; exact sp_cBl_same n1 X13 h89 hk
      · rw [f41]
        have hu3 := sp_cHh_kp (t := u) hB3 (fun c i z1 z2 => fu c i (by omega) (by omega) (by omega) (by omega))
        refine ⟨⟨?_, Or.inr ⟨by omega, by omega, fun k k0' k1 => ?_⟩⟩, hu3.1, hu3.2.1, hu3.2.2.1⟩
        · rw [Int.toNat_natCast]; exact k0
        · rw [f' 26 k (by omega) (by omega) (by omega) (by omega) (by omega) (by omega) (by omega)]
          intro q
          rcases hIm.1 k k0' k1 with ⟨-, q2⟩ | ⟨q1, q2, q3, -⟩
          · omega
          · right; omega
      · rw [f' 4 2 (by omega) (by omega) (by omega) (by omega) (by omega) (by omega) (by omega)]; exact sp_cS_same n3 X13 h89 hk
    · exact h La13 u X13 (by omega) (fun c i z1 z2 => by rw [fu c i z1, g31 c i (by omega)]; exact f c i (by omega) (by omega)) hu
end SGHb
