/-! LEVEL 2: a sentence is read, as a function of the text: how many ones, and the steps (kinds, signs, numbers). -/
noncomputable section SGSa
abbrev sp_ac : Type := Int × List Int × List Int × List Int
def sAd (a : sp_ac) (k g n : Int) : sp_ac := (a.1, a.2.1 ++ [k], a.2.2.1 ++ [g], a.2.2.2 ++ [n])
def sUp (a : sp_ac) : sp_ac := (a.1 + 1, a.2)
variable (T : List Int) (lim : Int)
def pCv : sp_rp → Int
  | .inl _ => 0
  | .inr q => if tK T lim q = 4 ∧ 60 ≤ tS T q ∧ tS T q ≤ 62 then tS T q else 0
def pCm : sp_rp → sp_rp
  | .inl f => .inl f
  | .inr q => if tK T lim q = 4 ∧ 60 ≤ tS T q ∧ tS T q ≤ 62 then .inr (tO T q) else .inl (1, tA T lim q)
def sLf (r : sp_rp) : Int := if pWd T lim 10 r ≠ 0 then 0 else if pWd T lim 11 r ≠ 0 then 1 else if pWd T lim 12 r ≠ 0 then 2 else if pWd T lim 13 r ≠ 0 then 3 else if pWd T lim 14 r ≠ 0 then 4 else if pWd T lim 15 r ≠ 0 then 5 else if pWd T lim 16 r ≠ 0 then 6 else if pWd T lim 17 r ≠ 0 then 7 else if pWd T lim 18 r ≠ 0 then 8 else -1
def sR1 (a : sp_ac) (deep : Int) (r : sp_rp) : sp_rp := if sLf T lim r = -1 ∧ pWd T lim 19 r = 0 ∧ pSg T lim 40 r = 0 then pFl T lim 1 r else if 20 ≤ a.1 ∨ deep ≠ 0 then pFl T lim 4 r else r
def sLp (F : sp_ac → sp_rp → sp_ac × sp_rp) (w : Nat) (k : Int) : Nat → sp_ac → sp_rp → sp_ac × sp_rp
  | 0, a, r => (a, r)
  | m + 1, a, r => if pWd T lim w r = 0 then (a, r) else sLp F w k m (sAd (F a (pAd T r)).1 k 0 0) (F a (pAd T r)).2
def sAl (F : sp_ac → sp_rp → sp_ac × sp_rp) (a : sp_ac) (r : sp_rp) : sp_ac × sp_rp := sLp T lim F 20 10 20 (F a r).1 (F a r).2
def sCo (F : sp_ac → sp_rp → sp_ac × sp_rp) (a : sp_ac) (r : sp_rp) : sp_ac × sp_rp := sLp T lim (sAl T lim F) 21 11 20 (sAl T lim F a r).1 (sAl T lim F a r).2
def sOn (F : sp_ac → sp_rp → sp_ac × sp_rp) (a : sp_ac) (r : sp_rp) : sp_ac × sp_rp := if pOk (sR1 T lim a 0 r) = 0 then (a, sR1 T lim a 0 r) else
  if pWd T lim 19 r ≠ 0 then (sAd (F (sUp a) (pAd T r)).1 9 0 0, (F (sUp a) (pAd T r)).2)
  else if pSg T lim 40 r ≠ 0 then ((sCo T lim F (sUp a) (pAd T r)).1, pMs T lim 41 (sCo T lim F (sUp a) (pAd T r)).2)
  else if sLf T lim r < 6 then (sAd (sUp a) (sLf T lim r) (pCv T lim (pAd T r)) (pNv T lim 0 9999 9999 (pCm T lim (pAd T r))), pNm T lim 0 9999 9999 (pCm T lim (pAd T r)))
  else (sAd (sUp a) (sLf T lim r) 0 0, pAd T r)
def sOne : Nat → sp_ac → sp_rp → sp_ac × sp_rp
  | 0, a, r => (a, sR1 T lim a 1 r)
  | m + 1, a, r => sOn T lim (fun a r => sOne m a r) a r
/-- a run of steps that puts one truth on the stack -/
def sSeg (K G M : List Int) (c : Int) (S : (Int → Int) → Bool) : Prop := G.length = K.length ∧ M.length = K.length ∧ 1 ≤ K.length ∧ (K.length : Int) + 1 ≤ 2 * c ∧ (sp_lf K : Int) ≤ c ∧ (∀ x, x ∈ K → 0 ≤ x ∧ x ≤ 11) ∧ ∀ e R st, sp_rn e sp_cm (sp_3 K G M ++ R) st = sp_rn e sp_cm R (S e :: st)
def sRes (a b : sp_ac) (S : (Int → Int) → Bool) : Prop := ∃ K G M, b.2.1 = a.2.1 ++ K ∧ b.2.2.1 = a.2.2.1 ++ G ∧ b.2.2.2 = a.2.2.2 ++ M ∧ sSeg K G M (b.1 - a.1) S
def sI (a : sp_ac) : Prop := 0 ≤ a.1 ∧ a.1 ≤ 20 ∧ (a.2.1.length : Int) ≤ 2 * a.1 ∧ a.2.2.1.length = a.2.1.length ∧ a.2.2.2.length = a.2.1.length
end SGSa
noncomputable section SGSb
variable {T : List Int} {lim : Int} {r : sp_rp} {a b c : sp_ac} {K G M K' G' M' : List Int} {S S' : (Int → Int) → Bool}
theorem sp_3_app (h1 : G.length = K.length) (h2 : M.length = K.length) : sp_3 (K ++ K') (G ++ G') (M ++ M') = sp_3 K G M ++ sp_3 K' G' M' := by
  unfold sp_3
  rw [List.zipWith_append (by omega), List.zipWith_append (by simp only [List.length_zipWith]; omega)]
theorem sp_lf_app : ∀ (K K' : List Int), sp_lf (K ++ K') = sp_lf K + sp_lf K'
  | [], K' => by simp [sp_lf]
  | k :: K, K' => by
    have := sp_lf_app K K'
    rw [List.cons_append, sp_lf, sp_lf]; split <;> omega
theorem sSeg_not {c : Int} (h : sSeg K G M c S) : sSeg (K ++ [9]) (G ++ [0]) (M ++ [0]) (c + 1) (fun e => !S e) := by
  obtain ⟨h1, h2, h3, h4, h5, h6, h7⟩ := h
  refine ⟨by simp [h1], by simp [h2], by simp, by simp only [List.length_append, List.length_cons, List.length_nil]; omega, ?_, fun x hx => ?_, fun e R st => ?_⟩
  · have e : sp_lf [9] = 0 := by simp [sp_lf]
    rw [sp_lf_app, e]; omega
  · rcases List.mem_append.mp hx with hx | hx
    · exact h6 x hx
    · have := List.mem_singleton.mp hx; omega
  · rw [sp_3_app h1 h2, List.append_assoc, h7]
    simp [sp_3, sp_rn]
theorem sSeg_bin {c d k : Int} (hk : k = 10 ∨ k = 11) (h : sSeg K G M c S) (h' : sSeg K' G' M' d S') : sSeg ((K ++ K') ++ [k]) ((G ++ G') ++ [0]) ((M ++ M') ++ [0]) (c + d) (fun e => if k = 10 then (S e && S' e) else (S e || S' e)) := by
  obtain ⟨h1, h2, h3, h4, h5, h6, h7⟩ := h
  obtain ⟨i1, i2, i3, i4, i5, i6, i7⟩ := h'
  have e : sp_lf [k] = 0 := by rw [sp_lf, if_neg (by omega), sp_lf]
  refine ⟨by simp only [List.length_append, List.length_cons, List.length_nil]; omega, by simp only [List.length_append, List.length_cons, List.length_nil]; omega, by simp only [List.length_append, List.length_cons, List.length_nil]; omega, by simp only [List.length_append, List.length_cons, List.length_nil]; omega, ?_, fun x hx => ?_, fun e R st => ?_⟩
  · rw [sp_lf_app, sp_lf_app, e]; omega
  · rcases List.mem_append.mp hx with hx | hx
    · rcases List.mem_append.mp hx with hx | hx
      · exact h6 x hx
      · exact i6 x hx
    · have := List.mem_singleton.mp hx; omega
  · rw [sp_3_app (by simp only [List.length_append]; omega) (by simp only [List.length_append]; omega), sp_3_app h1 h2, List.append_assoc, List.append_assoc, h7, i7]
    rcases hk with rfl | rfl
    · simp [sp_3, sp_rn]
    · simp [sp_3, sp_rn]
/-- what a leaf says -/
def sLv (k g n : Int) : (Int → Int) → Bool := fun e => if k = 6 then decide (0 < e 0) else if k = 7 then decide (e 6 ≠ 0) else if k = 8 then decide (e 7 ≠ 0) else sp_cm g (e k) n
theorem sSeg_leaf {k g n : Int} (hk : 0 ≤ k ∧ k ≤ 8) : sSeg [k] [g] [n] 1 (sLv k g n) := by
  refine ⟨rfl, rfl, by simp, by simp, ?_, fun x hx => ?_, fun e R st => ?_⟩
  · have e : sp_lf [k] = 1 := by rw [sp_lf, if_pos (by omega), sp_lf]
    rw [e]; omega
  · have := List.mem_singleton.mp hx; omega
  · have e3 : sp_3 [k] [g] [n] = [(k, g, n)] := rfl
    have h9 : ¬ k = 9 := by omega
    have h10 : ¬ k = 10 := by omega
    have h11 : ¬ k = 11 := by omega
    rw [e3, List.cons_append, List.nil_append]
    unfold sLv
    rcases st with _ | ⟨b, _ | ⟨a, r⟩⟩ <;> simp only [sp_rn, h9, h10, h11, if_false] <;> (repeat' split) <;> rfl
theorem sRes_not (h : sRes (sUp a) b S) : sRes a (sAd b 9 0 0) (fun e => !S e) := by
  obtain ⟨K, G, M, e1, e2, e3, hs⟩ := h
  refine ⟨K ++ [9], G ++ [0], M ++ [0], ?_, ?_, ?_, ?_⟩
  · show b.2.1 ++ [9] = _
    rw [e1, List.append_assoc]; rfl
  · show b.2.2.1 ++ [0] = _
    rw [e2, List.append_assoc]; rfl
  · show b.2.2.2 ++ [0] = _
    rw [e3, List.append_assoc]; rfl
  · have e : (sAd b 9 0 0).1 - a.1 = b.1 - (sUp a).1 + 1 := by
      show b.1 - a.1 = b.1 - (a.1 + 1) + 1
      omega
    rw [e]; exact sSeg_not hs
theorem sRes_up (h : sRes (sUp a) b S) : sRes a b S := by
  obtain ⟨K, G, M, e1, e2, e3, hs⟩ := h
  refine ⟨K, G, M, e1, e2, e3, ?_⟩
  obtain ⟨h1, h2, h3, h4, h5, h6, h7⟩ := hs
  have e : (sUp a).1 = a.1 + 1 := rfl
  exact ⟨h1, h2, h3, by omega, by omega, h6, h7⟩
theorem sRes_bin {k : Int} (hk : k = 10 ∨ k = 11) (h : sRes a b S) (h' : sRes b c S') : sRes a (sAd c k 0 0) (fun e => if k = 10 then (S e && S' e) else (S e || S' e)) := by
  obtain ⟨K, G, M, e1, e2, e3, hs⟩ := h
  obtain ⟨K', G', M', f1, f2, f3, hs'⟩ := h'
  refine ⟨(K ++ K') ++ [k], (G ++ G') ++ [0], (M ++ M') ++ [0], ?_, ?_, ?_, ?_⟩
  · show c.2.1 ++ [k] = _
    rw [f1, e1, List.append_assoc, List.append_assoc, List.append_assoc]
  · show c.2.2.1 ++ [0] = _
    rw [f2, e2, List.append_assoc, List.append_assoc, List.append_assoc]
  · show c.2.2.2 ++ [0] = _
    rw [f3, e3, List.append_assoc, List.append_assoc, List.append_assoc]
  · have e : (sAd c k 0 0).1 - a.1 = (b.1 - a.1) + (c.1 - b.1) := by
      show c.1 - a.1 = _
      omega
    rw [e]; exact sSeg_bin hk hs hs'
theorem sRes_leaf {k g n : Int} (hk : 0 ≤ k ∧ k ≤ 8) : sRes a (sAd (sUp a) k g n) (sLv k g n) := by
  refine ⟨[k], [g], [n], rfl, rfl, rfl, ?_⟩
  have e : (sAd (sUp a) k g n).1 - a.1 = 1 := by
    show a.1 + 1 - a.1 = 1
    omega
  rw [e]; exact sSeg_leaf hk
theorem sRes_I (hi : sI a) (h : sRes a b S) (hb : b.1 ≤ 20) : sI b ∧ (b.2.1.length : Int) + 1 ≤ 2 * b.1 ∧ a.1 + 1 ≤ b.1 ∧ a.2.1.length < b.2.1.length := by
  obtain ⟨K, G, M, e1, e2, e3, h1, h2, h3, h4, h5, h6, h7⟩ := h
  obtain ⟨i1, i2, i3, i4, i5⟩ := hi
  have l1 : b.2.1.length = a.2.1.length + K.length := by rw [e1, List.length_append]
  have l2 : b.2.2.1.length = a.2.2.1.length + G.length := by rw [e2, List.length_append]
  have l3 : b.2.2.2.length = a.2.2.2.length + M.length := by rw [e3, List.length_append]
  refine ⟨⟨by omega, hb, by omega, by omega, by omega⟩, by omega, by omega, by omega⟩
/-- a reader of one thing -/
def sFP (T : List Int) (F : sp_ac → sp_rp → sp_ac × sp_rp) : Prop := (∀ a f, (F a (.inl f)).2 = .inl f) ∧ (∀ a r, pIn T r → pIn T (F a r).2) ∧ ∀ a q, pIn T (.inr q) → sI a → pOk (F a (.inr q)).2 ≠ 0 → (F a (.inr q)).1.1 ≤ 20 ∧ ∃ S, sRes a (F a (.inr q)).1 S
theorem sLp_inl {F : sp_ac → sp_rp → sp_ac × sp_rp} {w : Nat} {k : Int} {f : Int × Int} : ∀ (m : Nat) (a : sp_ac), sLp T lim F w k m a (.inl f) = (a, .inl f)
  | 0, a => rfl
  | m + 1, a => by rw [sLp, if_pos (show pWd T lim w (.inl f) = 0 from rfl)]
theorem sLp_in {F : sp_ac → sp_rp → sp_ac × sp_rp} (hF : sFP T F) {w : Nat} {k : Int} : ∀ (m : Nat) (a : sp_ac) (r : sp_rp), pIn T r → pIn T (sLp T lim F w k m a r).2
  | 0, a, r, h => h
  | m + 1, a, r, h => by
    rw [sLp]; split
    · exact h
    · rename_i g
      exact sLp_in hF m _ _ (hF.2.1 _ _ (pIn_adw h g))
/-- behind a first one: a loop's end -/
theorem sLp_ok {F : sp_ac → sp_rp → sp_ac × sp_rp} (hF : sFP T F) {w : Nat} {k : Int} (hk : k = 10 ∨ k = 11) : ∀ (m : Nat) (a b : sp_ac) (q : Int) (S : (Int → Int) → Bool), pIn T (.inr q) → sI a → b.1 ≤ 20 → sRes a b S → pOk (sLp T lim F w k m b (.inr q)).2 ≠ 0 → (sLp T lim F w k m b (.inr q)).1.1 ≤ 20 ∧ ∃ S', sRes a (sLp T lim F w k m b (.inr q)).1 S'
  | 0, a, b, q, S, hq, hi, hb, h, ok => ⟨hb, S, h⟩
  | m + 1, a, b, q, S, hq, hi, hb, h, ok => by
    rw [sLp] at ok ⊢
    split
    · exact ⟨hb, S, h⟩
    · rename_i g
      rw [if_neg g] at ok
      have hin := pIn_adw (lim := lim) hq g
      have ib := (sRes_I hi h hb).1
      have e0 : pAd T (.inr q) = .inr (tO T q) := rfl
      rw [e0] at ok hin ⊢
      rcases hr : (F b (.inr (tO T q))).2 with f | q2
      · rw [hr, sLp_inl] at ok
        exact absurd rfl ok
      · obtain ⟨h20, S', h'⟩ := hF.2.2 b (tO T q) hin ib (by rw [hr]; exact (show (1 : Int) ≠ 0 by omega))
        have hin2 := hF.2.1 b _ hin
        rw [hr] at ok hin2
        exact sLp_ok hF hk m a _ q2 _ hin2 hi h20 (sRes_bin hk h h') ok
theorem sFP_lp {F : sp_ac → sp_rp → sp_ac × sp_rp} (hF : sFP T F) {w : Nat} {k : Int} (hk : k = 10 ∨ k = 11) : sFP T (fun a r => sLp T lim F w k 20 (F a r).1 (F a r).2) := by
  refine ⟨fun a f => ?_, fun a r h => sLp_in hF 20 _ _ (hF.2.1 a r h), fun a q hq hi ok => ?_⟩
  · show (sLp T lim F w k 20 (F a (.inl f)).1 (F a (.inl f)).2).2 = .inl f
    rw [hF.1 a f, sLp_inl]
  · change pOk (sLp T lim F w k 20 (F a (.inr q)).1 (F a (.inr q)).2).2 ≠ 0 at ok
    show (sLp T lim F w k 20 (F a (.inr q)).1 (F a (.inr q)).2).1.1 ≤ 20 ∧ _
    rcases hr : (F a (.inr q)).2 with f | q2
    · rw [hr, sLp_inl] at ok
      exact absurd rfl ok
    · obtain ⟨h20, S, h⟩ := hF.2.2 a q hq hi (by rw [hr]; exact (show (1 : Int) ≠ 0 by omega))
      have hin2 := hF.2.1 a _ hq
      rw [hr] at ok hin2
      have kk := sLp_ok (lim := lim) hF hk 20 a _ q2 S hin2 hi h20 h ok
      refine ⟨kk.1, ?_⟩
      obtain ⟨S', hs⟩ := kk.2
      refine ⟨S', ?_⟩
      show sRes a (sLp T lim F w k 20 (F a (.inr q)).1 (F a (.inr q)).2).1 S'
      rw [hr]; exact hs
theorem sFP_al {F : sp_ac → sp_rp → sp_ac × sp_rp} (hF : sFP T F) : sFP T (sAl T lim F) := sFP_lp hF (Or.inl rfl)
theorem sFP_co {F : sp_ac → sp_rp → sp_ac × sp_rp} (hF : sFP T F) : sFP T (sCo T lim F) := sFP_lp (F := sAl T lim F) (sFP_al hF) (Or.inr rfl)
theorem sLf_rg (r : sp_rp) : -1 ≤ sLf T lim r ∧ sLf T lim r ≤ 8 := by
  unfold sLf; repeat' split
  all_goals omega
theorem sR1_in (hq : sp_tq T lim) (d : Int) (h : pIn T r) : pIn T (sR1 T lim a d r) := by
  unfold sR1; split
  · exact pIn_fl hq (by omega) h
  · split
    · exact pIn_fl hq (by omega) h
    · exact h
theorem pOk_fl {k : Int} : pOk (pFl T lim k r) = 0 := by cases r <;> rfl
theorem sR1_ok {d : Int} (h : pOk (sR1 T lim a d r) ≠ 0) : sR1 T lim a d r = r ∧ a.1 < 20 ∧ d = 0 ∧ (sLf T lim r ≠ -1 ∨ pWd T lim 19 r ≠ 0 ∨ pSg T lim 40 r ≠ 0) := by
  unfold sR1 at h ⊢
  split at h
  · exact absurd pOk_fl h
  · rename_i g
    split at h
    · exact absurd pOk_fl h
    · rename_i g2
      rw [if_neg g, if_neg g2]
      refine ⟨rfl, by omega, by omega, ?_⟩
      by_cases h1 : sLf T lim r = -1
      · by_cases h2 : pWd T lim 19 r = 0
        · exact Or.inr (Or.inr (fun h3 => g ⟨h1, h2, h3⟩))
        · exact Or.inr (Or.inl h2)
      · exact Or.inl h1
theorem sR1_inl {d : Int} {f : Int × Int} : sR1 T lim a d (.inl f) = .inl f := by
  unfold sR1; split
  · rfl
  · split <;> rfl
theorem pIn_ads {c : Int} (h : pIn T r) (g : pSg T lim c r ≠ 0) : pIn T (pAd T r) := by
  match r, h, g with
  | .inl f, h, g => exact absurd rfl g
  | .inr q, h, g => exact pIn_ad (lim := lim) h (by have := pSg_1 g; omega)
theorem pIn_cm (hq : sp_tq T lim) (h : pIn T r) : pIn T (pCm T lim r) := by
  match r, h with
  | .inl f, h => exact h
  | .inr q, h =>
    have ha := tA_rg h.1 h.2 hq.2.2.1
    have e : pCm T lim (.inr q) = if tK T lim q = 4 ∧ 60 ≤ tS T q ∧ tS T q ≤ 62 then .inr (tO T q) else .inl (1, tA T lim q) := rfl
    rw [e]
    by_cases g : tK T lim q = 4 ∧ 60 ≤ tS T q ∧ tS T q ≤ 62
    · rw [if_pos g]; exact pIn_ad (lim := lim) h (by omega)
    · rw [if_neg g]; exact ⟨show (1 : Int) ≠ 0 by omega, show (1 : Int) ≤ 1 by omega, show (1 : Int) ≤ 4 by omega, ha⟩
theorem sLf_w (h : sLf T lim r ≠ -1) : ∃ w : Nat, pWd T lim w r ≠ 0 := by
  unfold sLf at h
  repeat' split at h
  all_goals first | exact ⟨_, by assumption⟩ | exact absurd rfl h
theorem sFP_on {F : sp_ac → sp_rp → sp_ac × sp_rp} (hq : sp_tq T lim) (hF : sFP T F) : sFP T (sOn T lim F) := by
  have hC := sFP_co (lim := lim) hF
  refine ⟨fun a f => ?_, fun a r h => ?_, fun a q hin hi ok => ?_⟩
  · unfold sOn
    rw [sR1_inl, if_pos (show pOk (.inl f) = 0 from rfl)]
  · unfold sOn
    split
    · exact sR1_in hq 0 h
    · rename_i g0
      split
      · rename_i g; exact hF.2.1 _ _ (pIn_adw h g)
      · rename_i g1
        split
        · rename_i g; exact pIn_ms hq (hC.2.1 _ _ (pIn_ads h g))
        · rename_i g2
          have hl : sLf T lim r ≠ -1 := by
            rcases (sR1_ok g0).2.2.2 with q | q | q
            · exact q
            · exact absurd q g1
            · exact absurd q g2
          obtain ⟨w, hw⟩ := sLf_w hl
          split
          · exact pIn_nm hq (pIn_cm hq (pIn_adw h hw))
          · exact pIn_adw h hw
  · have hu : ∀ g0 : pOk (sR1 T lim a 0 (.inr q)) ≠ 0, sI (sUp a) := fun g0 => by
      have := (sR1_ok g0).2.1
      obtain ⟨i1, i2, i3, i4, i5⟩ := hi
      refine ⟨?_, ?_, ?_, i4, i5⟩
      · show 0 ≤ a.1 + 1; omega
      · show a.1 + 1 ≤ 20; omega
      · show (a.2.1.length : Int) ≤ 2 * (a.1 + 1); omega
    unfold sOn at ok ⊢
    split
    · rename_i g0; rw [if_pos g0] at ok; exact absurd g0 ok
    · rename_i g0
      rw [if_neg g0] at ok
      have hu := hu g0
      have e0 : pAd T (.inr q) = .inr (tO T q) := rfl
      split
      · rename_i g
        rw [if_pos g] at ok
        have hin2 := pIn_adw (lim := lim) hin g
        rw [e0] at ok hin2 ⊢
        obtain ⟨h20, S, h⟩ := hF.2.2 _ _ hin2 hu ok
        exact ⟨h20, _, sRes_not h⟩
      · rename_i g
        rw [if_neg g] at ok
        split
        · rename_i g3
          rw [if_pos g3] at ok
          have hin2 := pIn_ads (lim := lim) hin g3
          rw [e0] at ok hin2 ⊢
          dsimp only at ok ⊢
          rcases hr : (sCo T lim F (sUp a) (.inr (tO T q))).2 with f | q2
          · rw [hr] at ok; exact absurd rfl ok
          · obtain ⟨h20, S, h⟩ := hC.2.2 _ _ hin2 hu (by rw [hr]; exact (show (1 : Int) ≠ 0 by omega))
            exact ⟨h20, _, sRes_up h⟩
        · rename_i g3
          rw [if_neg g3] at ok
          have hl : sLf T lim (.inr q) ≠ -1 := by
            rcases (sR1_ok g0).2.2.2 with q | q | q
            · exact q
            · exact absurd q g
            · exact absurd q g3
          have hlr := sLf_rg (T := T) (lim := lim) (.inr q)
          have h20 := hu.2.1
          split
          · exact ⟨h20, _, sRes_leaf (by omega)⟩
          · exact ⟨h20, _, sRes_leaf (by omega)⟩
theorem sFP_one (hq : sp_tq T lim) : ∀ m : Nat, sFP T (sOne T lim m)
  | 0 => by
    refine ⟨fun a f => sR1_inl (T := T) (lim := lim) (a := a) (d := 1), fun a r h => sR1_in hq 1 h, fun a q hin hi ok => ?_⟩
    have := (sR1_ok (show pOk (sR1 T lim a 1 (.inr q)) ≠ 0 from ok)).2.2.1
    omega
  | m + 1 => sFP_on hq (sFP_one hq m)
end SGSb
