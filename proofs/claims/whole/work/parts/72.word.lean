/-! LEVEL 2: words by their numbers; readers of tokens as functions of where one stands (a fault and its place, or the place behind the token before). -/
noncomputable section SGTw
/-- the number of the first m letters of the class's word w -/
def sp_ww (w : Nat) : Nat → Int
  | 0 => 0
  | m + 1 => 27 * sp_ww w m + sg_sc w m - 96
def sp_wv (w : Nat) : Int := sp_ww w (sg_slen.getD w 0)
def sp_pw : Nat → Int
  | 0 => 1
  | m + 1 => 27 * sp_pw m
theorem sp_pw_pos : ∀ m : Nat, 1 ≤ sp_pw m
  | 0 => by simp [sp_pw]
  | m + 1 => by have := sp_pw_pos m; rw [sp_pw]; omega
theorem sp_pw_le {m : Nat} : ∀ {k : Nat}, m ≤ k → sp_pw m ≤ sp_pw k
  | 0, h => by rw [show m = 0 by omega]; exact Int.le_refl _
  | k + 1, h => by
    by_cases q : m = k + 1
    · rw [q]; exact Int.le_refl _
    · have := sp_pw_le (m := m) (k := k) (by omega)
      have := sp_pw_pos k
      rw [sp_pw]; omega
theorem sp_bw_hi {T : List Int} {f : Int} : ∀ m : Nat, (∀ j : Nat, j < m → sp_lt (sp_at T (f + j))) → 0 ≤ sp_bw T f m ∧ sp_bw T f m < sp_pw m
  | 0, _ => by simp [sp_bw, sp_pw]
  | m + 1, h => by
    have k := sp_bw_hi (T := T) (f := f) m (fun j hj => h j (by omega))
    have h1 := (h m (by omega)).1
    have h2 := (h m (by omega)).2
    rw [sp_bw, sp_pw]; omega
theorem sp_ww_hi {w : Nat} : ∀ m : Nat, (∀ j : Nat, j < m → sp_lt (sg_sc w j)) → 0 ≤ sp_ww w m ∧ sp_ww w m < sp_pw m
  | 0, _ => by simp [sp_ww, sp_pw]
  | m + 1, h => by
    have k := sp_ww_hi (w := w) m (fun j hj => h j (by omega))
    have h1 := (h m (by omega)).1
    have h2 := (h m (by omega)).2
    rw [sp_ww, sp_pw]; omega
theorem sp_bw_lo {T : List Int} {f : Int} : ∀ m : Nat, (∀ j : Nat, j < m + 1 → sp_lt (sp_at T (f + j))) → sp_pw m ≤ sp_bw T f (m + 1)
  | 0, h => by
    have h1 := (h 0 (by omega)).1
    rw [sp_bw, sp_bw, sp_pw]; omega
  | m + 1, h => by
    have k := sp_bw_lo (T := T) (f := f) m (fun j hj => h j (by omega))
    have h1 := (h (m + 1) (by omega)).1
    rw [sp_bw, sp_pw]; omega
theorem sp_ww_lo {w : Nat} : ∀ m : Nat, (∀ j : Nat, j < m + 1 → sp_lt (sg_sc w j)) → sp_pw m ≤ sp_ww w (m + 1)
  | 0, h => by
    have h1 := (h 0 (by omega)).1
    rw [sp_ww, sp_ww, sp_pw]; omega
  | m + 1, h => by
    have k := sp_ww_lo (w := w) m (fun j hj => h j (by omega))
    have h1 := (h (m + 1) (by omega)).1
    rw [sp_ww, sp_pw]; omega
theorem sp_bw_ww {T : List Int} {f : Int} {w : Nat} : ∀ m : Nat, (∀ j : Nat, j < m → sp_lt (sp_at T (f + j))) → (∀ j : Nat, j < m → sp_lt (sg_sc w j)) → (sp_bw T f m = sp_ww w m ↔ ∀ j : Nat, j < m → sp_at T (f + j) = sg_sc w j)
  | 0, _, _ => by simp [sp_bw, sp_ww]
  | m + 1, h, h' => by
    have k := sp_bw_ww (T := T) (f := f) (w := w) m (fun j hj => h j (by omega)) (fun j hj => h' j (by omega))
    have h1 := (h m (by omega)).1
    have h2 := (h m (by omega)).2
    have h3 := (h' m (by omega)).1
    have h4 := (h' m (by omega)).2
    rw [sp_bw, sp_ww]
    constructor
    · intro e j hj
      by_cases q : j = m
      · rw [q]; omega
      · exact k.mp (by omega) j (by omega)
    · intro e
      have := k.mpr (fun j hj => e j (by omega))
      have := e m (by omega)
      omega
theorem sp_sc_lt : ∀ w : Nat, w < 22 → ∀ j : Nat, j < sg_slen.getD w 0 → sp_lt (sg_sc w j) := by decide +kernel
theorem sp_sl_rg : ∀ w : Nat, w < 22 → 1 ≤ sg_slen.getD w 0 ∧ sg_slen.getD w 0 ≤ 6 := by decide +kernel
theorem sp_cl_all {T : List Int} {f : Int} : ∀ m : Nat, sp_cl T f m = m → ∀ j : Nat, j < m → sp_lt (sp_at T (f + j))
  | 0, _, j, hj => by omega
  | m + 1, h, j, hj => by
    have k := sp_cl_rg T f m
    rw [sp_cl] at h
    split at h
    · rename_i g
      by_cases q : j = m
      · rw [q]; exact g
      · exact sp_cl_all m (by omega) j (by omega)
    · omega
/-- at a word: where it begins, ends, of what it is -/
theorem tK2 {T : List Int} {lim q : Int} (hq : q ≤ T.length) (h : tK T lim q = 2) : ¬ (lim < T.length ∧ lim ≤ tF T q) ∧ tF T q < tE T q ∧ tE T q - tF T q ≤ 6 ∧ ∀ j : Nat, j < (tE T q - tF T q).toNat → sp_lt (sp_at T (tF T q + j)) := by
  have he := tE_rg hq
  unfold tK at h
  split at h
  · omega
  · rename_i g
    split at h
    · omega
    · split at h
      · split at h <;> omega
      · rename_i g2
        split at h
        · omega
        · split at h
          · rename_i g4
            refine ⟨g, by omega, g4.2, sp_cl_all _ ?_⟩
            have := g4.1
            unfold tL at this; omega
          · omega
theorem tK3 {T : List Int} {lim q : Int} (hq : q ≤ T.length) (h : tK T lim q = 3) : ¬ (lim < T.length ∧ lim ≤ tF T q) ∧ tF T q < tE T q ∧ tE T q - tF T q ≤ 4 ∧ tL T q = 0 := by
  have he := tE_rg hq
  unfold tK at h
  split at h
  · omega
  · rename_i g
    split at h
    · omega
    · split at h
      · split at h <;> omega
      · rename_i g2
        split at h
        · rename_i g4
          exact ⟨g, by omega, g4.2, g4.1⟩
        · split at h <;> omega
theorem tK4 {T : List Int} {lim q : Int} (hq : q ≤ T.length) (h : tK T lim q = 4) : ¬ (lim < T.length ∧ lim ≤ tF T q) ∧ tF T q < T.length ∧ tE T q = tF T q := by
  have he := tE_rg hq
  unfold tK at h
  split at h
  · omega
  · rename_i g
    split at h
    · omega
    · split at h
      · rename_i g2
        exact ⟨g, by omega, g2⟩
      · split at h
        · omega
        · split at h <;> omega
theorem tK_rg (T : List Int) (lim q : Int) : 0 ≤ tK T lim q ∧ tK T lim q ≤ 4 := by
  unfold tK; repeat' split
  all_goals omega
theorem tO_rg {T : List Int} {lim q : Int} (hq : q ≤ T.length) (h : 2 ≤ tK T lim q) : q < tO T q ∧ tO T q ≤ T.length := by
  have hf := tF_rg hq
  have he := tE_rg hq
  have hk := tK_rg T lim q
  have h3 : tK T lim q = 2 ∨ tK T lim q = 3 ∨ tK T lim q = 4 := by omega
  unfold tO
  rcases h3 with h3 | h3 | h3
  · have := tK2 hq h3
    rw [if_neg (by omega)]; omega
  · have := tK3 hq h3
    rw [if_neg (by omega)]; omega
  · have := tK4 hq h3
    rw [if_pos this.2.2]; omega
theorem tA_of {T : List Int} {lim q : Int} (hq : q ≤ T.length) (h : 2 ≤ tK T lim q) : tA T lim q = tF T q := by
  have hk := tK_rg T lim q
  have h3 : tK T lim q = 2 ∨ tK T lim q = 3 ∨ tK T lim q = 4 := by omega
  unfold tA
  rcases h3 with h3 | h3 | h3
  · rw [if_neg (tK2 hq h3).1]
  · rw [if_neg (tK3 hq h3).1]
  · rw [if_neg (tK4 hq h3).1]
theorem tA_rg {T : List Int} {lim q : Int} (h0 : 0 ≤ q) (hq : q ≤ T.length) (hl : 0 ≤ lim) : 0 ≤ tA T lim q ∧ tA T lim q ≤ T.length := by
  have hf := tF_rg hq
  unfold tA; split <;> omega
/-- digits alone: the number is small -/
theorem sp_cl_0 {T : List Int} {f : Int} : ∀ m : Nat, sp_cl T f m = 0 → ∀ j : Nat, j < m → ¬ sp_lt (sp_at T (f + j))
  | 0, _, j, hj => by omega
  | m + 1, h, j, hj => by
    have k := sp_cl_rg T f m
    rw [sp_cl] at h
    split at h
    · omega
    · rename_i g
      by_cases q : j = m
      · rw [q]; exact g
      · exact sp_cl_0 m h j (by omega)
theorem sp_nm_rg {T : List Int} {f : Int} : ∀ m : Nat, (∀ j : Nat, j < m → sp_dg (sp_at T (f + j))) → 0 ≤ sp_nm T f m ∧ (m ≤ 0 → sp_nm T f m = 0) ∧ (m ≤ 1 → sp_nm T f m ≤ 9) ∧ (m ≤ 2 → sp_nm T f m ≤ 99) ∧ (m ≤ 3 → sp_nm T f m ≤ 999) ∧ (m ≤ 4 → sp_nm T f m ≤ 9999)
  | 0, _ => by simp [sp_nm]
  | m + 1, h => by
    have k := sp_nm_rg (T := T) (f := f) m (fun j hj => h j (by omega))
    have h1 := (h m (by omega)).1
    have h2 := (h m (by omega)).2
    rw [sp_nm]
    refine ⟨by omega, by omega, by omega, by omega, by omega, by omega⟩
theorem tV_rg {T : List Int} {lim q : Int} (hq : q ≤ T.length) (h : tK T lim q = 3) : 0 ≤ tV T q ∧ tV T q ≤ 9999 := by
  obtain ⟨-, h1, h2, h3⟩ := tK3 hq h
  have k := sp_nm_rg (T := T) (f := tF T q) (tE T q - tF T q).toNat (fun j hj => by
    have ha := sp_re_al T _ (tF T q) (tF T q + j) (by omega) (show tF T q + j < tE T q by omega)
    have hn := sp_cl_0 _ h3 j hj
    exact ha.resolve_left hn)
  unfold tV
  exact ⟨k.1, k.2.2.2.2.2 (by omega)⟩
/-- a word is the class's word w just when it has its length and its letters -/
theorem tW_is {T : List Int} {lim q : Int} {w : Nat} (hq : q ≤ T.length) (h : tK T lim q = 2) (hw : w < 22) : tW T q = sp_wv w ↔ (tE T q - tF T q = sg_sl w ∧ ∀ j : Nat, j < sg_slen.getD w 0 → sp_at T (tF T q + j) = sg_sc w j) := by
  obtain ⟨-, h1, h2, h3⟩ := tK2 hq h
  have hs := sp_sl_rg w hw
  have hl := sp_sc_lt w hw
  have esl : sg_sl w = ((sg_slen.getD w 0 : Nat) : Int) := rfl
  rw [esl]
  unfold tW sp_wv
  generalize hn : sg_slen.getD w 0 = n at *
  generalize hm : (tE T q - tF T q).toNat = m at *
  have hm1 : tE T q - tF T q = m := by omega
  rw [hm1]
  by_cases e : m = n
  · subst e
    rw [sp_bw_ww m h3 hl]
    exact ⟨fun k => ⟨rfl, k⟩, fun k => k.2⟩
  · refine ⟨fun k => ?_, fun k => absurd (Int.ofNat.inj k.1) e⟩
    exfalso
    rcases Nat.lt_or_gt_of_ne e with g | g
    · have a := sp_bw_hi m h3
      have b := sp_ww_lo (w := w) (n - 1) (fun j hj => hl j (by omega))
      have c := sp_pw_le (m := m) (k := n - 1) (by omega)
      rw [show n - 1 + 1 = n by omega] at b
      omega
    · have a := sp_ww_hi n hl
      have b := sp_bw_lo (T := T) (f := tF T q) (m - 1) (fun j hj => h3 j (by omega))
      have c := sp_pw_le (m := n) (k := m - 1) (by omega)
      rw [show m - 1 + 1 = m by omega] at b
      omega
end SGTw
noncomputable section SGTp
/-- a fault (kind, place), or the place behind the token before -/
abbrev sp_rp : Type := (Int × Int) ⊕ Int
def pFl (T : List Int) (lim k : Int) : sp_rp → sp_rp
  | .inl f => .inl f
  | .inr q => .inl (k, tA T lim q)
def pWd (T : List Int) (lim : Int) (w : Nat) : sp_rp → Int
  | .inl _ => 0
  | .inr q => if tK T lim q = 2 ∧ tW T q = sp_wv w then 1 else 0
def pSg (T : List Int) (lim c : Int) : sp_rp → Int
  | .inl _ => 0
  | .inr q => if tK T lim q = 4 ∧ tS T q = c then 1 else 0
def pAd (T : List Int) : sp_rp → sp_rp
  | .inl f => .inl f
  | .inr q => .inr (tO T q)
def pNm (T : List Int) (lim lo hi room : Int) : sp_rp → sp_rp
  | .inl f => .inl f
  | .inr q => if tK T lim q ≠ 3 then .inl (1, tA T lim q) else if tV T q < lo ∨ hi < tV T q then .inl (2, tA T lim q) else if room < tV T q then .inl (4, tA T lim q) else .inr (tO T q)
def pNv (T : List Int) (lim lo hi room : Int) : sp_rp → Int
  | .inl _ => 0
  | .inr q => if tK T lim q ≠ 3 then 0 else if tV T q < lo ∨ hi < tV T q then 0 else if room < tV T q then 0 else tV T q
def pSk (T : List Int) (lim c : Int) (r : sp_rp) : sp_rp := if pSg T lim c r = 0 then r else pAd T r
def pWk (T : List Int) (lim : Int) (w : Nat) (r : sp_rp) : sp_rp := if pWd T lim w r = 0 then r else pAd T r
def pMs (T : List Int) (lim c : Int) (r : sp_rp) : sp_rp := if pSg T lim c r = 0 then pFl T lim 1 r else pAd T r
def pMw (T : List Int) (lim : Int) (w : Nat) (r : sp_rp) : sp_rp := if pWd T lim w r = 0 then pFl T lim 1 r else pAd T r
def pGo (T : List Int) (lim : Int) : sp_rp → Int
  | .inl _ => 0
  | .inr q => if tK T lim q = 0 then 0 else 1
def pOk : sp_rp → Int
  | .inl _ => 0
  | .inr _ => 1
def sp_sgn (g v : Int) : Int := if g = 0 then v else -v
/-- a place in the text -/
def pIn (T : List Int) : sp_rp → Prop
  | .inl f => f.1 ≠ 0 ∧ 1 ≤ f.1 ∧ f.1 ≤ 4 ∧ 0 ≤ f.2 ∧ f.2 ≤ T.length
  | .inr q => 0 ≤ q ∧ q ≤ T.length
def sp_tq (T : List Int) (lim : Int) : Prop := T.length ≤ 540 ∧ (∀ x, x ∈ T → 0 ≤ x ∧ x ≤ 255) ∧ 0 ≤ lim ∧ lim ≤ 540
/-- the class stands at r -/
def sp_tC (T : List Int) (lim : Int) (r : sp_rp) (s : sg_M) : Prop := (s 1 1 = T.length ∧ sg_ar (s 2) 0 T) ∧ pIn T r ∧ match r with
  | .inl f => s 3 6 = f.1 ∧ s 3 7 = f.2
  | .inr q => s 3 6 = 0 ∧ sp_tc T lim q s
variable {T : List Int} {lim : Int} {r : sp_rp} {s : sg_M}
theorem sp_tC_kp {s' : sg_M} (H : sp_tC T lim r s) (e : ∀ c i, (c = 1 ∧ i = 1) ∨ c = 2 ∨ (c = 3 ∧ 1 ≤ i ∧ i ≤ 7) → s' c i = s c i) : sp_tC T lim r s' := by
  refine ⟨sp_kT H.1 (fun c i q => e c i (by omega)), H.2.1, ?_⟩
  match r, H.2.2 with
  | .inl f, h => exact ⟨by rw [e 3 6 (by omega)]; exact h.1, by rw [e 3 7 (by omega)]; exact h.2⟩
  | .inr q, h =>
    obtain ⟨h1, a1, a2, a3, a4, a5, a6⟩ := h
    refine ⟨by rw [e 3 6 (by omega)]; exact h1, by rw [e 3 1 (by omega)]; exact a1, by rw [e 3 3 (by omega)]; exact a2, by rw [e 3 2 (by omega)]; exact a3, ?_, ?_, ?_⟩
    · rw [e 3 4 (by omega)]; exact a4
    · rw [e 3 5 (by omega)]; exact a5
    · rw [e 3 5 (by omega)]; exact a6
theorem tX9_fail {k : Int} {Q : sg_M → Prop} (hq : sp_tq T lim) (H : sp_tC T lim r s) (hk : 1 ≤ k ∧ k ≤ 4) (h : ∀ t, (∀ c i, (c = 3 → i < 2) → t c i = s c i) → sp_tC T lim (pFl T lim k r) t → Q t) : fX9_fail s k Q := by
  match r, H with
  | .inl f, H =>
    refine ⟨fun _ => h s (fun _ _ _ => rfl) H, fun g => absurd (show s 3 6 = f.1 from H.2.2.1) ?_⟩
    rw [g]; exact fun e => H.2.1.1 e.symm
  | .inr q, H =>
    obtain ⟨h1, h2, h3, h4⟩ := H
    refine ⟨fun g => absurd h3 g, fun _ s3 e3 s6 e6 => h s6 (fun c i g => by rw [e6, sg_upN _ (by omega), e3, sg_upN _ (by omega)]) ?_⟩
    have f : ∀ c i, c ≠ 3 → s6 c i = s c i := fun c i g => by rw [e6, sg_upN _ (by omega), e3, sg_upN _ (by omega)]
    have ha := tA_rg h2.1 h2.2 hq.2.2.1
    refine ⟨sp_kT h1 (fun c i g => f c i (by omega)), ⟨show k ≠ 0 by omega, hk.1, hk.2, ha⟩, ?_, ?_⟩
    · rw [e6, sg_upN _ (by omega), e3, sg_upS]
    · rw [e6, sg_upS, e3, sg_upN _ (by omega)]; exact h4.2.1
theorem tX9_adv {q : Int} {Q : sg_M → Prop} (hq : sp_tq T lim) (H : sp_tC T lim (.inr q) s) (hk : 2 ≤ tK T lim q) (h : ∀ t, (∀ c i, (c = 3 → i < 2) → t c i = s c i) → sp_tC T lim (.inr (tO T q)) t → Q t) : fX9_advance s Q := by
  obtain ⟨h1, h2, h3, h4⟩ := H
  have ho := tO_rg h2.2 hk
  refine tX9_advance (lim := lim) hq.1 hq.2.1 h1 h4.1 hq.2.2 (q := tO T q) (by have := h2.1; omega) (h4.2.2.2.1 hk) (fun t hF ht => h t (fun c i g => hF c i (by omega)) ⟨sp_kT h1 (fun c i g => hF c i (by omega)), ⟨by have := h2.1; omega, ho.2⟩, ?_, ht⟩)
  rw [hF 3 6 (by omega)]; exact h3
theorem tX9_isSign {c : Int} {Q : Int → Prop} (H : sp_tC T lim r s) (h : Q (pSg T lim c r)) : fX9_isSign s c Q := by
  match r, H with
  | .inl f, H => exact ⟨fun _ => h, fun g => absurd (show s 3 6 = f.1 from H.2.2.1) (by rw [g]; exact fun e => H.2.1.1 e.symm)⟩
  | .inr q, H =>
    obtain ⟨h1, h2, h3, h4⟩ := H
    have hkr := tK_rg T lim q
    have k3 : s 3 2 = 3 ↔ tK T lim q = 4 := by
      rw [h4.2.2.1]; unfold sp_kc2; repeat' split
      all_goals omega
    have h : Q (if tK T lim q = 4 ∧ tS T q = c then 1 else 0) := h
    refine ⟨fun g => absurd h3 g, fun _ => ⟨fun g => ?_, fun g => ⟨fun g2 => ?_, fun g2 => ?_⟩⟩⟩
    · rw [if_neg (fun z => g (k3.mpr z.1))] at h; exact h
    · rw [if_neg (fun z => g2 (by rw [h4.2.2.2.2.2 z.1]; exact z.2))] at h; exact h
    · rw [if_pos ⟨k3.mp g, by rw [← h4.2.2.2.2.2 (k3.mp g)]; exact g2⟩] at h; exact h
theorem sp_iwL {q : Int} {w : Nat} {Q : Int → Prop} (hl : T.length ≤ 540) (hT : s 1 1 = T.length ∧ sg_ar (s 2) 0 T) (h33 : s 3 3 = q) (hqr : 0 ≤ q ∧ q ≤ 540) (hw : w < 22)
    (h1 : (∀ j : Nat, j < sg_slen.getD w 0 → sp_at T (q + j) = sg_sc w j) → Q 1) (h0 : ¬ (∀ j : Nat, j < sg_slen.getD w 0 → sp_at T (q + j) = sg_sc w j) → Q 0) :
    ∀ (n m : Nat), m + n = sg_slen.getD w 0 → (∀ j : Nat, j < m → sp_at T (q + j) = sg_sc w j) → fX9_isWord_L35 s w Q (n + 1) m
  | 0, m, hm, hp => by
    have hs := sp_sl_rg w hw
    have esl : sg_sl w = ((sg_slen.getD w 0 : Nat) : Int) := rfl
    rw [fX9_isWord_L35, esl]
    exact ⟨fun _ => h1 (fun j hj => hp j (by omega)), fun g => absurd (show ((sg_slen.getD w 0 : Nat) : Int) ≤ m by omega) g⟩
  | n + 1, m, hm, hp => by
    have hs := sp_sl_rg w hw
    have esl : sg_sl w = ((sg_slen.getD w 0 : Nat) : Int) := rfl
    rw [fX9_isWord_L35, esl, h33]
    refine ⟨fun g => absurd g (by omega), fun _ => ⟨by omega, tX8_byteAt hT hl ⟨by omega, fun g => ⟨by omega, ?_⟩, fun g => h0 (fun z => g (z m (by omega)))⟩⟩⟩
    exact sp_iwL hl hT h33 hqr hw h1 h0 n (m + 1) (by omega) (fun j hj => by
      by_cases e : j = m
      · rw [e]; exact g
      · exact hp j (by omega))
theorem tX9_isWord {w : Nat} {Q : Int → Prop} (hq : sp_tq T lim) (hw : w < 22) (H : sp_tC T lim r s) (h : Q (pWd T lim w r)) : fX9_isWord s w Q := by
  match r, H with
  | .inl f, H => exact ⟨fun _ => h, fun g => absurd (show s 3 6 = f.1 from H.2.2.1) (by rw [g]; exact fun e => H.2.1.1 e.symm)⟩
  | .inr q, H =>
    obtain ⟨h1, h2, h3, h4⟩ := H
    have hkr := tK_rg T lim q
    have hl := hq.1
    have k3 : s 3 2 = 1 ↔ tK T lim q = 2 := by
      rw [h4.2.2.1]; unfold sp_kc2; repeat' split
      all_goals omega
    have h : Q (if tK T lim q = 2 ∧ tW T q = sp_wv w then 1 else 0) := h
    refine ⟨fun g => absurd h3 g, fun _ => ⟨fun g => ?_, fun g => ?_⟩⟩
    · rw [if_neg (fun z => g (k3.mpr z.1))] at h; exact h
    · have hk := k3.mp g
      have e33 : s 3 3 = tF T q := by rw [h4.2.1, tA_of h2.2 (by omega)]
      have e34 : s 3 4 = tE T q := by
        rw [h4.2.2.2.1 (by omega)]; unfold tO; rw [if_neg (by have := (tK2 h2.2 hk).2.1; omega)]
      have hf := tF_rg h2.2
      have he := tE_rg h2.2
      have h20 := h2.1
      rw [e34, e33]
      have hi := tW_is h2.2 hk hw
      refine ⟨by omega, fun g2 => ⟨sg_slen.getD w 0 + 1, ?_⟩, fun g2 => ?_⟩
      · refine sp_iwL hl h1 e33 (by omega) hw (fun g3 => ?_) (fun g3 => ?_) (sg_slen.getD w 0) 0 (by omega) (fun j hj => by omega)
        · rw [if_pos ⟨hk, hi.mpr ⟨g2, g3⟩⟩] at h; exact h
        · rw [if_neg (fun z => g3 (hi.mp z.2).2)] at h; exact h
      · rw [if_neg (fun z => g2 (hi.mp z.2).1)] at h; exact h
theorem pSg_1 {c q : Int} (h : pSg T lim c (.inr q) ≠ 0) : tK T lim q = 4 ∧ tS T q = c := by
  refine Decidable.byContradiction (fun g => h ?_)
  show (if _ then _ else _) = _
  rw [if_neg g]
theorem pWd_1 {w : Nat} {q : Int} (h : pWd T lim w (.inr q) ≠ 0) : tK T lim q = 2 ∧ tW T q = sp_wv w := by
  refine Decidable.byContradiction (fun g => h ?_)
  show (if _ then _ else _) = _
  rw [if_neg g]
theorem tX9_skipSign {c : Int} {Q : Int → sg_M → Prop} (hq : sp_tq T lim) (H : sp_tC T lim r s) (h : ∀ t, (∀ c i, (c = 3 → i < 2) → t c i = s c i) → sp_tC T lim (pSk T lim c r) t → Q (pSg T lim c r) t) : fX9_skipSign s c Q := by
  refine tX9_isSign H ⟨fun g => ?_, fun g => ?_⟩
  · unfold pSk at h; rw [if_pos g] at h; exact h s (fun _ _ _ => rfl) H
  · unfold pSk at h; rw [if_neg g] at h
    match r, H, g, h with
    | .inl f, H, g, h => exact absurd rfl g
    | .inr q, H, g, h => exact tX9_adv hq H (by have := pSg_1 g; omega) h
theorem tX9_skipWord {w : Nat} {Q : Int → sg_M → Prop} (hq : sp_tq T lim) (hw : w < 22) (H : sp_tC T lim r s) (h : ∀ t, (∀ c i, (c = 3 → i < 2) → t c i = s c i) → sp_tC T lim (pWk T lim w r) t → Q (pWd T lim w r) t) : fX9_skipWord s w Q := by
  refine tX9_isWord hq hw H ⟨fun g => ?_, fun g => ?_⟩
  · unfold pWk at h; rw [if_pos g] at h; exact h s (fun _ _ _ => rfl) H
  · unfold pWk at h; rw [if_neg g] at h
    match r, H, g, h with
    | .inl f, H, g, h => exact absurd rfl g
    | .inr q, H, g, h => exact tX9_adv hq H (by have := pWd_1 g; omega) h
theorem tX9_mustBeSign {c : Int} {Q : sg_M → Prop} (hq : sp_tq T lim) (H : sp_tC T lim r s) (h : ∀ t, (∀ c i, (c = 3 → i < 2) → t c i = s c i) → sp_tC T lim (pMs T lim c r) t → Q t) : fX9_mustBeSign s c Q := by
  refine tX9_skipSign hq H (fun t hF ht => ⟨fun g => ?_, fun g => ?_⟩)
  · unfold pSk at ht; unfold pMs at h
    rw [if_neg g] at ht h; exact h t hF ht
  · unfold pSk at ht; unfold pMs at h
    rw [if_pos g] at ht h
    exact tX9_fail hq ht (by omega) (fun u hu hu2 => h u (fun c i z => by rw [hu c i z]; exact hF c i z) hu2)
theorem tX9_mustBeWord {w : Nat} {Q : sg_M → Prop} (hq : sp_tq T lim) (hw : w < 22) (H : sp_tC T lim r s) (h : ∀ t, (∀ c i, (c = 3 → i < 2) → t c i = s c i) → sp_tC T lim (pMw T lim w r) t → Q t) : fX9_mustBeWord s w Q := by
  refine tX9_skipWord hq hw H (fun t hF ht => ⟨fun g => ?_, fun g => ?_⟩)
  · unfold pWk at ht; unfold pMw at h
    rw [if_neg g] at ht h; exact h t hF ht
  · unfold pWk at ht; unfold pMw at h
    rw [if_pos g] at ht h
    exact tX9_fail hq ht (by omega) (fun u hu hu2 => h u (fun c i z => by rw [hu c i z]; exact hF c i z) hu2)
theorem tX9_number {lo hi room : Int} {Q : Int → sg_M → Prop} (hq : sp_tq T lim) (H : sp_tC T lim r s) (h : ∀ t, (∀ c i, (c = 3 → i < 2) → t c i = s c i) → sp_tC T lim (pNm T lim lo hi room r) t → Q (pNv T lim lo hi room r) t) : fX9_number s lo hi room Q := by
  match r, H, h with
  | .inl f, H, h =>
    have h6 : s 3 6 ≠ 0 := by rw [H.2.2.1]; exact H.2.1.1
    have fin : fX9_number_j53 Q s := ⟨fun g => absurd g h6, fun _ => h s (fun _ _ _ => rfl) H⟩
    have fl : ∀ k, 1 ≤ k ∧ k ≤ 4 → fX9_fail s k (fun s8 => fX9_number_j53 Q s8) := fun k _ => ⟨fun _ => fin, fun g => absurd g h6⟩
    exact ⟨fun _ => ⟨fun _ => fl 2 (by omega), fun _ => ⟨fun _ => ⟨fun _ => fin, fun _ => fl 4 (by omega)⟩, fun _ => fl 2 (by omega)⟩⟩, fun _ => fl 1 (by omega)⟩
  | .inr q, H, h =>
    have H' := H
    obtain ⟨h1, h2, h3, h4⟩ := H'
    have hkr := tK_rg T lim q
    have k3 : s 3 2 = 2 ↔ tK T lim q = 3 := by
      rw [h4.2.2.1]; unfold sp_kc2; repeat' split
      all_goals omega
    have fl : ∀ k, 1 ≤ k ∧ k ≤ 4 → pNm T lim lo hi room (.inr q) = .inl (k, tA T lim q) → pNv T lim lo hi room (.inr q) = 0 → fX9_fail s k (fun s8 => fX9_number_j53 Q s8) := fun k hk e1 e2 =>
      tX9_fail hq H hk (fun t hF ht => ⟨fun g => absurd g (by rw [ht.2.2.1]; exact ht.2.1.1), fun _ => by rw [e1, e2] at h; exact h t hF ht⟩)
    have eN : pNm T lim lo hi room (.inr q) = if tK T lim q ≠ 3 then .inl (1, tA T lim q) else if tV T q < lo ∨ hi < tV T q then .inl (2, tA T lim q) else if room < tV T q then .inl (4, tA T lim q) else .inr (tO T q) := rfl
    have eV : pNv T lim lo hi room (.inr q) = if tK T lim q ≠ 3 then 0 else if tV T q < lo ∨ hi < tV T q then 0 else if room < tV T q then 0 else tV T q := rfl
    refine ⟨fun g => ?_, fun g => ?_⟩
    · have hk := k3.mp g
      have e5 := h4.2.2.2.2.1 hk
      rw [if_neg (by omega)] at eN eV
      rw [e5]
      have two : (tV T q < lo ∨ hi < tV T q) → fX9_fail s 2 (fun s8 => fX9_number_j53 Q s8) := fun z => by
        rw [if_pos z] at eN eV; exact fl 2 (by omega) eN eV
      refine ⟨fun g2 => two (Or.inl g2), fun g2 => ⟨fun g3 => ?_, fun g3 => two (Or.inr (by omega))⟩⟩
      rw [if_neg (by omega)] at eN eV
      refine ⟨fun g4 => ⟨fun _ => ?_, fun g5 => absurd h3 g5⟩, fun g4 => ?_⟩
      · rw [if_neg (by omega)] at eN eV
        rw [eN, eV] at h
        rw [e5]
        exact tX9_adv hq H (by omega) h
      · rw [if_pos (by omega)] at eN eV
        exact fl 4 (by omega) eN eV
    · rw [if_pos (by omega)] at eN eV
      exact fl 1 (by omega) eN eV
theorem tX9_isGoingOn {Q : Int → Prop} (H : sp_tC T lim r s) (h : Q (pGo T lim r)) : fX9_isGoingOn s Q := by
  match r, H with
  | .inl f, H => exact ⟨fun _ => h, fun g => absurd (show s 3 6 = f.1 from H.2.2.1) (by rw [g]; exact fun e => H.2.1.1 e.symm)⟩
  | .inr q, H =>
    obtain ⟨h1, h2, h3, h4⟩ := H
    have k3 : s 3 2 = 0 ↔ tK T lim q = 0 := by
      have hkr := tK_rg T lim q
      rw [h4.2.2.1]; unfold sp_kc2; repeat' split
      all_goals omega
    have h : Q (if tK T lim q = 0 then 0 else 1) := h
    refine ⟨fun g => absurd h3 g, fun _ => ⟨fun g => ?_, fun g => ?_⟩⟩
    · rw [if_pos (k3.mp g)] at h; exact h
    · rw [if_neg (fun z => g (k3.mpr z))] at h; exact h
theorem tX11_signed {g v : Int} {Q : Int → Prop} (hv : -9999 ≤ v ∧ v ≤ 9999) (h : Q (sp_sgn g v)) : fX11_signed g v Q := by
  unfold sp_sgn at h
  refine ⟨fun e => by rw [if_pos e] at h; exact h, fun e => ⟨by omega, by rw [if_neg e] at h; exact h⟩⟩
theorem pNv_rg (lo hi room : Int) (hr : pIn T r) : 0 ≤ pNv T lim lo hi room r ∧ pNv T lim lo hi room r ≤ 9999 := by
  match r, hr with
  | .inl f, _ => exact ⟨Int.le_refl 0, by show (0 : Int) ≤ 9999; omega⟩
  | .inr q, hr =>
    have e : pNv T lim lo hi room (.inr q) = if tK T lim q ≠ 3 then 0 else if tV T q < lo ∨ hi < tV T q then 0 else if room < tV T q then 0 else tV T q := rfl
    rw [e]
    split
    · omega
    · rename_i g
      have := tV_rg (lim := lim) hr.2 (by omega)
      repeat' split
      all_goals omega
theorem tX9_open {Q : sg_M → Prop} (hq : sp_tq T lim) (hT : s 1 1 = T.length ∧ sg_ar (s 2) 0 T) (h : ∀ t, (∀ c i, (c = 3 → i < 1) → t c i = s c i) → sp_tC T lim (.inr 0) t → Q t) : fX9_open s lim Q := by
  intro s1 e1 s3 e3 s5 e5 s7 e7
  have f : ∀ c i, (c = 3 → i < 1) → s7 c i = s c i := fun c i g => by rw [e7, sg_upN _ (by omega), e5, sg_upN _ (by omega), e3, sg_upN _ (by omega), e1, sg_upN _ (by omega)]
  have hT7 : s7 1 1 = T.length ∧ sg_ar (s7 2) 0 T := sp_kT hT (fun c i g => f c i (by omega))
  refine tX9_advance (lim := lim) hq.1 hq.2.1 hT7 (by rw [e7, sg_upN _ (by omega), e5, sg_upN _ (by omega), e3, sg_upN _ (by omega), e1, sg_upS]) hq.2.2 (q := 0) (by omega) (by rw [e7, sg_upN _ (by omega), e5, sg_upN _ (by omega), e3, sg_upS]) (fun t hF ht => h t (fun c i g => by rw [hF c i (by omega)]; exact f c i g) ⟨sp_kT hT7 (fun c i g => hF c i (by omega)), ⟨by omega, by omega⟩, ?_, ht⟩)
  rw [hF 3 6 (by omega), e7, sg_upN _ (by omega), e5, sg_upS]
end SGTp
