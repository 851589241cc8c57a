/-! LEVEL 2: readers of tokens, the reference's side. -/
noncomputable section SGTq
/-- the reference stands at r -/
def sp_tM (T : List Int) (lim : Int) (r : sp_rp) (s : sg_M) : Prop := sg_ar (s 65) 0 T ∧ pIn T r ∧ match r with
  | .inl f => s 64 10 = f.1 ∧ s 64 11 = f.2
  | .inr q => s 64 10 = 0 ∧ sp_tm T lim q s
variable {T : List Int} {lim : Int} {r : sp_rp} {s : sg_M}
/-- what the readers write -/
abbrev sp_tF (s t : sg_M) : Prop := ∀ c i, (c = 64 → i < 5 ∨ 13 < i) → t c i = s c i
theorem sp_tM_kp {s' : sg_M} (H : sp_tM T lim r s) (e : ∀ c i, c = 65 ∨ (c = 64 ∧ 3 ≤ i ∧ i ≤ 12) → s' c i = s c i) : sp_tM T lim r s' := by
  refine ⟨sg_ar_congr _ 0 (fun i _ _ => (e 65 i (by omega)).symm) H.1, H.2.1, ?_⟩
  match r, H.2.2 with
  | .inl f, h => exact ⟨by rw [e 64 10 (by omega)]; exact h.1, by rw [e 64 11 (by omega)]; exact h.2⟩
  | .inr q, h =>
    obtain ⟨h1, a1, a2, a3, a4, a5, a6, a7, a8⟩ := h
    refine ⟨by rw [e 64 10 (by omega)]; exact h1, by rw [e 64 3 (by omega)]; exact a1, by rw [e 64 4 (by omega)]; exact a2, by rw [e 64 6 (by omega)]; exact a3, by rw [e 64 7 (by omega)]; exact a4, ?_, ?_, ?_, ?_⟩
    · rw [e 64 5 (by omega)]; exact a5
    · rw [e 64 8 (by omega)]; exact a6
    · rw [e 64 9 (by omega)]; exact a7
    · rw [e 64 12 (by omega)]; exact a8
theorem tX12_adv {q : Int} {Q : sg_M → Prop} (hq : sp_tq T lim) (H : sp_tM T lim (.inr q) s) (hk : 2 ≤ tK T lim q) (h : ∀ t, sp_tF s t → t 64 13 = s 64 13 → sp_tM T lim (.inr (tO T q)) t → Q t) : fX12_go s Q := by
  obtain ⟨h1, h2, h3, h4⟩ := H
  have ho := tO_rg h2.2 hk
  have h20 := h2.1
  refine tX12_go (lim := lim) hq.1 hq.2.1 h4.1 h1 h4.2.1 hq.2.2 (q := tO T q) (by omega) (h4.2.2.2.2.1 hk) (fun t hF ht => h t (fun c i g => hF c i (by omega) (by omega)) (hF 64 13 (by omega) (by omega)) ⟨sg_ar_congr _ 0 (fun i _ _ => (hF 65 i (by omega) (by omega)).symm) h1, ⟨by omega, ho.2⟩, ?_, ht⟩)
  rw [hF 64 10 (by omega) (by omega)]; exact h3
theorem tX12_bad {q k : Int} {Q : Int → sg_M → Prop} (hq : sp_tq T lim) (H : sp_tM T lim (.inr q) s) (hk : 1 ≤ k ∧ k ≤ 4) (h1 : tK T lim q = 1 → k = 1) (h : ∀ t, sp_tF s t → sp_tM T lim (.inl (k, tA T lim q)) t → Q 0 t) : fX12_bad s k Q := by
  obtain ⟨g1, h2, h3, h4⟩ := H
  have ha := tA_rg h2.1 h2.2 hq.2.2.1
  have e7 : s 64 7 = tK T lim q := h4.2.2.2.1
  have e6 : s 64 6 = tA T lim q := h4.2.2.1
  have fin : ∀ s3 : sg_M, s3 = sg_up s 64 10 k → ∀ s6 : sg_M, s6 = sg_up s3 64 11 (s3 64 6) → Q 0 s6 := by
    intro s3 e3 s6 e8
    have f : ∀ c i, (c = 64 → i ≠ 10 ∧ i ≠ 11) → s6 c i = s c i := fun c i g => by rw [e8, sg_upN _ (by omega), e3, sg_upN _ (by omega)]
    refine h s6 (fun c i g => f c i (by omega)) ⟨sg_ar_congr _ 0 (fun i _ _ => (f 65 i (by omega)).symm) g1, ⟨show k ≠ 0 by omega, hk.1, hk.2, ha⟩, ?_, ?_⟩
    · rw [e8, sg_upN _ (by omega), e3, sg_upS]
    · rw [e8, sg_upS, e3, sg_upN _ (by omega)]; exact e6
  refine ⟨fun _ => fin, fun g => ?_⟩
  have : k = 1 := h1 (by omega)
  subst this
  exact fin
theorem tX12_isSign {c q : Int} {Q : Int → Prop} (H : sp_tM T lim (.inr q) s) (h : Q (pSg T lim c (.inr q))) : fX12_isSign s c Q := by
  obtain ⟨h1, h2, h3, h4⟩ := H
  have e7 : s 64 7 = tK T lim q := h4.2.2.2.1
  have h : Q (if tK T lim q = 4 ∧ tS T q = c then 1 else 0) := h
  refine ⟨fun g => ?_, fun g => ⟨fun g2 => ?_, fun g2 => ?_⟩⟩
  · rw [if_neg (fun z => g (by rw [e7]; exact z.1))] at h; exact h
  · rw [if_neg (fun z => g2 (by rw [h4.2.2.2.2.2.2.1 z.1]; exact z.2))] at h; exact h
  · have hk : tK T lim q = 4 := by rw [← e7]; exact g
    rw [if_pos ⟨hk, by rw [← h4.2.2.2.2.2.2.1 hk]; exact g2⟩] at h; exact h
/-- the class's number of the reference's word k -/
def sp_wx : Nat → Nat := fun k => [0, 1, 2, 3, 4, 5, 6, 7, 8, 9, 21, 20, 19, 16, 17, 18, 10, 11, 12, 13, 14, 15].getD k 0
theorem sp_wn : ∀ w : Nat, w < 22 → sp_wv w = [8683934, 10731428, 11570, 423812, 43056, 47, 555, 257, 10255874, 453701, 404978, 8740067, 9753499, 283613333, 235981828, 400313, 10284940, 38567165, 11088176, 10631, 1111, 423].getD w 0 := by decide +kernel
theorem tq_sp2 {a b v : Int} {Q : Int → Prop} (ha : 97 ≤ a ∧ a ≤ 122) (hb : 97 ≤ b ∧ b ≤ 122) (hv : v = 27 * (a - 96) + b - 96) (h : Q v) : fX12_spelt a b 0 0 Q := by
  subst hv
  exact ⟨fun _ => ⟨by omega, fun _ => h, fun g => absurd (show (0 : Int) ≤ 0 by omega) g⟩, fun g => absurd (show (0 : Int) ≤ 0 by omega) g⟩
theorem tq_sp3 {a b c v : Int} {Q : Int → Prop} (ha : 97 ≤ a ∧ a ≤ 122) (hb : 97 ≤ b ∧ b ≤ 122) (hc : 97 ≤ c ∧ c ≤ 122) (hv : v = 27 * (27 * (a - 96) + b - 96) + c - 96) (h : Q v) : fX12_spelt a b c 0 Q := by
  subst hv
  exact ⟨fun g => absurd g (by omega), fun _ v5 e5 => ⟨by omega, fun _ => by rw [e5]; exact h, fun g => absurd (show (0 : Int) ≤ 0 by omega) g⟩⟩
theorem tq_sp4 {a b c d v : Int} {Q : Int → Prop} (ha : 97 ≤ a ∧ a ≤ 122) (hb : 97 ≤ b ∧ b ≤ 122) (hc : 97 ≤ c ∧ c ≤ 122) (hd : 97 ≤ d ∧ d ≤ 122) (hv : v = 27 * (27 * (27 * (a - 96) + b - 96) + c - 96) + d - 96) (h : Q v) : fX12_spelt a b c d Q := by
  subst hv
  exact ⟨fun g => absurd g (by omega), fun _ v5 e5 => ⟨by omega, fun g => absurd g (by omega), fun _ => ⟨by omega, by rw [e5]; exact h⟩⟩⟩
theorem tq_on1 {x a v : Int} {Q : Int → Prop} (hx : 0 ≤ x ∧ x ≤ 20000000) (ha : 97 ≤ a ∧ a ≤ 122) (hv : v = 27 * x + a - 96) (h : Q v) : fX12_on x a 0 Q := by
  subst hv
  exact ⟨fun _ => ⟨by omega, h⟩, fun g => absurd (show (0 : Int) ≤ 0 by omega) g⟩
theorem tq_on2 {x a b v : Int} {Q : Int → Prop} (hx : 0 ≤ x ∧ x ≤ 20000000) (ha : 97 ≤ a ∧ a ≤ 122) (hb : 97 ≤ b ∧ b ≤ 122) (hv : v = 27 * (27 * x + a - 96) + b - 96) (h : Q v) : fX12_on x a b Q := by
  subst hv
  exact ⟨fun g => absurd g (by omega), fun _ => ⟨by omega, h⟩⟩
theorem tX12_wordOf {k : Nat} (hk : k < 22) {Q : Int → Prop} (h : Q (sp_wv (sp_wx k))) : fX12_wordOf k Q := by
  have hx : ∀ k : Nat, k < 22 → sp_wx k < 22 := by decide
  rw [sp_wn (sp_wx k) (hx k hk)] at h
  have hc : k = 0 ∨ k = 1 ∨ k = 2 ∨ k = 3 ∨ k = 4 ∨ k = 5 ∨ k = 6 ∨ k = 7 ∨ k = 8 ∨ k = 9 ∨ k = 10 ∨ k = 11 ∨ k = 12 ∨ k = 13 ∨ k = 14 ∨ k = 15 ∨ k = 16 ∨ k = 17 ∨ k = 18 ∨ k = 19 ∨ k = 20 ∨ k = 21 := by omega
  rcases hc with rfl | rfl | rfl | rfl | rfl | rfl | rfl | rfl | rfl | rfl | rfl | rfl | rfl | rfl | rfl | rfl | rfl | rfl | rfl | rfl | rfl | rfl
  · change Q 8683934 at h
    exact ⟨fun g => absurd g (by omega), fun _ => tq_sp4 (by omega) (by omega) (by omega) (by omega) (v := 321627) (by omega) (tq_on1 (by omega) (by omega) (v := 8683934) (by omega) h), fun g => absurd g (by omega), fun g => absurd g (by omega), fun g => absurd g (by omega), fun g => absurd g (by omega), fun g => absurd g (by omega), fun g => absurd g (by omega), fun g => absurd g (by omega), fun g => absurd g (by omega), fun g => absurd g (by omega), fun g => absurd g (by omega), fun g => absurd g (by omega), fun g => absurd g (by omega), fun g => absurd g (by omega), fun g => absurd g (by omega), fun g => absurd g (by omega), fun g => absurd g (by omega), fun g => absurd g (by omega), fun g => absurd g (by omega), fun g => absurd g (by omega), fun g => absurd g (by omega)⟩
  · change Q 10731428 at h
    exact ⟨fun g => absurd g (by omega), fun g => absurd g (by omega), fun _ => tq_sp4 (by omega) (by omega) (by omega) (by omega) (v := 397460) (by omega) (tq_on1 (by omega) (by omega) (v := 10731428) (by omega) h), fun g => absurd g (by omega), fun g => absurd g (by omega), fun g => absurd g (by omega), fun g => absurd g (by omega), fun g => absurd g (by omega), fun g => absurd g (by omega), fun g => absurd g (by omega), fun g => absurd g (by omega), fun g => absurd g (by omega), fun g => absurd g (by omega), fun g => absurd g (by omega), fun g => absurd g (by omega), fun g => absurd g (by omega), fun g => absurd g (by omega), fun g => absurd g (by omega), fun g => absurd g (by omega), fun g => absurd g (by omega), fun g => absurd g (by omega), fun g => absurd g (by omega)⟩
  · change Q 11570 at h
    exact ⟨fun g => absurd g (by omega), fun g => absurd g (by omega), fun g => absurd g (by omega), fun _ => tq_sp3 (by omega) (by omega) (by omega) (v := 11570) (by omega) h, fun g => absurd g (by omega), fun g => absurd g (by omega), fun g => absurd g (by omega), fun g => absurd g (by omega), fun g => absurd g (by omega), fun g => absurd g (by omega), fun g => absurd g (by omega), fun g => absurd g (by omega), fun g => absurd g (by omega), fun g => absurd g (by omega), fun g => absurd g (by omega), fun g => absurd g (by omega), fun g => absurd g (by omega), fun g => absurd g (by omega), fun g => absurd g (by omega), fun g => absurd g (by omega), fun g => absurd g (by omega), fun g => absurd g (by omega)⟩
  · change Q 423812 at h
    exact ⟨fun g => absurd g (by omega), fun g => absurd g (by omega), fun g => absurd g (by omega), fun g => absurd g (by omega), fun _ => tq_sp4 (by omega) (by omega) (by omega) (by omega) (v := 423812) (by omega) h, fun g => absurd g (by omega), fun g => absurd g (by omega), fun g => absurd g (by omega), fun g => absurd g (by omega), fun g => absurd g (by omega), fun g => absurd g (by omega), fun g => absurd g (by omega), fun g => absurd g (by omega), fun g => absurd g (by omega), fun g => absurd g (by omega), fun g => absurd g (by omega), fun g => absurd g (by omega), fun g => absurd g (by omega), fun g => absurd g (by omega), fun g => absurd g (by omega), fun g => absurd g (by omega), fun g => absurd g (by omega)⟩
  · change Q 43056 at h
    exact ⟨fun g => absurd g (by omega), fun g => absurd g (by omega), fun g => absurd g (by omega), fun g => absurd g (by omega), fun g => absurd g (by omega), fun _ => tq_sp4 (by omega) (by omega) (by omega) (by omega) (v := 43056) (by omega) h, fun g => absurd g (by omega), fun g => absurd g (by omega), fun g => absurd g (by omega), fun g => absurd g (by omega), fun g => absurd g (by omega), fun g => absurd g (by omega), fun g => absurd g (by omega), fun g => absurd g (by omega), fun g => absurd g (by omega), fun g => absurd g (by omega), fun g => absurd g (by omega), fun g => absurd g (by omega), fun g => absurd g (by omega), fun g => absurd g (by omega), fun g => absurd g (by omega), fun g => absurd g (by omega)⟩
  · change Q 47 at h
    exact ⟨fun g => absurd g (by omega), fun g => absurd g (by omega), fun g => absurd g (by omega), fun g => absurd g (by omega), fun g => absurd g (by omega), fun g => absurd g (by omega), fun _ => tq_sp2 (by omega) (by omega) (v := 47) (by omega) h, fun g => absurd g (by omega), fun g => absurd g (by omega), fun g => absurd g (by omega), fun g => absurd g (by omega), fun g => absurd g (by omega), fun g => absurd g (by omega), fun g => absurd g (by omega), fun g => absurd g (by omega), fun g => absurd g (by omega), fun g => absurd g (by omega), fun g => absurd g (by omega), fun g => absurd g (by omega), fun g => absurd g (by omega), fun g => absurd g (by omega), fun g => absurd g (by omega)⟩
  · change Q 555 at h
    exact ⟨fun g => absurd g (by omega), fun g => absurd g (by omega), fun g => absurd g (by omega), fun g => absurd g (by omega), fun g => absurd g (by omega), fun g => absurd g (by omega), fun g => absurd g (by omega), fun _ => tq_sp2 (by omega) (by omega) (v := 555) (by omega) h, fun g => absurd g (by omega), fun g => absurd g (by omega), fun g => absurd g (by omega), fun g => absurd g (by omega), fun g => absurd g (by omega), fun g => absurd g (by omega), fun g => absurd g (by omega), fun g => absurd g (by omega), fun g => absurd g (by omega), fun g => absurd g (by omega), fun g => absurd g (by omega), fun g => absurd g (by omega), fun g => absurd g (by omega), fun g => absurd g (by omega)⟩
  · change Q 257 at h
    exact ⟨fun g => absurd g (by omega), fun g => absurd g (by omega), fun g => absurd g (by omega), fun g => absurd g (by omega), fun g => absurd g (by omega), fun g => absurd g (by omega), fun g => absurd g (by omega), fun g => absurd g (by omega), fun _ => tq_sp2 (by omega) (by omega) (v := 257) (by omega) h, fun g => absurd g (by omega), fun g => absurd g (by omega), fun g => absurd g (by omega), fun g => absurd g (by omega), fun g => absurd g (by omega), fun g => absurd g (by omega), fun g => absurd g (by omega), fun g => absurd g (by omega), fun g => absurd g (by omega), fun g => absurd g (by omega), fun g => absurd g (by omega), fun g => absurd g (by omega), fun g => absurd g (by omega)⟩
  · change Q 10255874 at h
    exact ⟨fun g => absurd g (by omega), fun g => absurd g (by omega), fun g => absurd g (by omega), fun g => absurd g (by omega), fun g => absurd g (by omega), fun g => absurd g (by omega), fun g => absurd g (by omega), fun g => absurd g (by omega), fun g => absurd g (by omega), fun _ => tq_sp4 (by omega) (by omega) (by omega) (by omega) (v := 379847) (by omega) (tq_on1 (by omega) (by omega) (v := 10255874) (by omega) h), fun g => absurd g (by omega), fun g => absurd g (by omega), fun g => absurd g (by omega), fun g => absurd g (by omega), fun g => absurd g (by omega), fun g => absurd g (by omega), fun g => absurd g (by omega), fun g => absurd g (by omega), fun g => absurd g (by omega), fun g => absurd g (by omega), fun g => absurd g (by omega), fun g => absurd g (by omega)⟩
  · change Q 453701 at h
    exact ⟨fun g => absurd g (by omega), fun g => absurd g (by omega), fun g => absurd g (by omega), fun g => absurd g (by omega), fun g => absurd g (by omega), fun g => absurd g (by omega), fun g => absurd g (by omega), fun g => absurd g (by omega), fun g => absurd g (by omega), fun g => absurd g (by omega), fun _ => tq_sp4 (by omega) (by omega) (by omega) (by omega) (v := 453701) (by omega) h, fun g => absurd g (by omega), fun g => absurd g (by omega), fun g => absurd g (by omega), fun g => absurd g (by omega), fun g => absurd g (by omega), fun g => absurd g (by omega), fun g => absurd g (by omega), fun g => absurd g (by omega), fun g => absurd g (by omega), fun g => absurd g (by omega), fun g => absurd g (by omega)⟩
  · change Q 423 at h
    exact ⟨fun g => absurd g (by omega), fun g => absurd g (by omega), fun g => absurd g (by omega), fun g => absurd g (by omega), fun g => absurd g (by omega), fun g => absurd g (by omega), fun g => absurd g (by omega), fun g => absurd g (by omega), fun g => absurd g (by omega), fun g => absurd g (by omega), fun g => absurd g (by omega), fun _ => tq_sp2 (by omega) (by omega) (v := 423) (by omega) h, fun g => absurd g (by omega), fun g => absurd g (by omega), fun g => absurd g (by omega), fun g => absurd g (by omega), fun g => absurd g (by omega), fun g => absurd g (by omega), fun g => absurd g (by omega), fun g => absurd g (by omega), fun g => absurd g (by omega), fun g => absurd g (by omega)⟩
  · change Q 1111 at h
    exact ⟨fun g => absurd g (by omega), fun g => absurd g (by omega), fun g => absurd g (by omega), fun g => absurd g (by omega), fun g => absurd g (by omega), fun g => absurd g (by omega), fun g => absurd g (by omega), fun g => absurd g (by omega), fun g => absurd g (by omega), fun g => absurd g (by omega), fun g => absurd g (by omega), fun g => absurd g (by omega), fun _ => tq_sp3 (by omega) (by omega) (by omega) (v := 1111) (by omega) h, fun g => absurd g (by omega), fun g => absurd g (by omega), fun g => absurd g (by omega), fun g => absurd g (by omega), fun g => absurd g (by omega), fun g => absurd g (by omega), fun g => absurd g (by omega), fun g => absurd g (by omega), fun g => absurd g (by omega)⟩
  · change Q 10631 at h
    exact ⟨fun g => absurd g (by omega), fun g => absurd g (by omega), fun g => absurd g (by omega), fun g => absurd g (by omega), fun g => absurd g (by omega), fun g => absurd g (by omega), fun g => absurd g (by omega), fun g => absurd g (by omega), fun g => absurd g (by omega), fun g => absurd g (by omega), fun g => absurd g (by omega), fun g => absurd g (by omega), fun g => absurd g (by omega), fun _ => tq_sp3 (by omega) (by omega) (by omega) (v := 10631) (by omega) h, fun g => absurd g (by omega), fun g => absurd g (by omega), fun g => absurd g (by omega), fun g => absurd g (by omega), fun g => absurd g (by omega), fun g => absurd g (by omega), fun g => absurd g (by omega), fun g => absurd g (by omega)⟩
  · change Q 10284940 at h
    exact ⟨fun g => absurd g (by omega), fun g => absurd g (by omega), fun g => absurd g (by omega), fun g => absurd g (by omega), fun g => absurd g (by omega), fun g => absurd g (by omega), fun g => absurd g (by omega), fun g => absurd g (by omega), fun g => absurd g (by omega), fun g => absurd g (by omega), fun g => absurd g (by omega), fun g => absurd g (by omega), fun g => absurd g (by omega), fun g => absurd g (by omega), fun _ => tq_sp4 (by omega) (by omega) (by omega) (by omega) (v := 380923) (by omega) (tq_on1 (by omega) (by omega) (v := 10284940) (by omega) h), fun g => absurd g (by omega), fun g => absurd g (by omega), fun g => absurd g (by omega), fun g => absurd g (by omega), fun g => absurd g (by omega), fun g => absurd g (by omega), fun g => absurd g (by omega)⟩
  · change Q 38567165 at h
    exact ⟨fun g => absurd g (by omega), fun g => absurd g (by omega), fun g => absurd g (by omega), fun g => absurd g (by omega), fun g => absurd g (by omega), fun g => absurd g (by omega), fun g => absurd g (by omega), fun g => absurd g (by omega), fun g => absurd g (by omega), fun g => absurd g (by omega), fun g => absurd g (by omega), fun g => absurd g (by omega), fun g => absurd g (by omega), fun g => absurd g (by omega), fun g => absurd g (by omega), fun _ => tq_sp4 (by omega) (by omega) (by omega) (by omega) (v := 52904) (by omega) (tq_on2 (by omega) (by omega) (by omega) (v := 38567165) (by omega) h), fun g => absurd g (by omega), fun g => absurd g (by omega), fun g => absurd g (by omega), fun g => absurd g (by omega), fun g => absurd g (by omega), fun g => absurd g (by omega)⟩
  · change Q 11088176 at h
    exact ⟨fun g => absurd g (by omega), fun g => absurd g (by omega), fun g => absurd g (by omega), fun g => absurd g (by omega), fun g => absurd g (by omega), fun g => absurd g (by omega), fun g => absurd g (by omega), fun g => absurd g (by omega), fun g => absurd g (by omega), fun g => absurd g (by omega), fun g => absurd g (by omega), fun g => absurd g (by omega), fun g => absurd g (by omega), fun g => absurd g (by omega), fun g => absurd g (by omega), fun g => absurd g (by omega), fun _ => tq_sp4 (by omega) (by omega) (by omega) (by omega) (v := 410673) (by omega) (tq_on1 (by omega) (by omega) (v := 11088176) (by omega) h), fun g => absurd g (by omega), fun g => absurd g (by omega), fun g => absurd g (by omega), fun g => absurd g (by omega), fun g => absurd g (by omega)⟩
  · change Q 404978 at h
    exact ⟨fun g => absurd g (by omega), fun g => absurd g (by omega), fun g => absurd g (by omega), fun g => absurd g (by omega), fun g => absurd g (by omega), fun g => absurd g (by omega), fun g => absurd g (by omega), fun g => absurd g (by omega), fun g => absurd g (by omega), fun g => absurd g (by omega), fun g => absurd g (by omega), fun g => absurd g (by omega), fun g => absurd g (by omega), fun g => absurd g (by omega), fun g => absurd g (by omega), fun g => absurd g (by omega), fun g => absurd g (by omega), fun _ => tq_sp4 (by omega) (by omega) (by omega) (by omega) (v := 404978) (by omega) h, fun g => absurd g (by omega), fun g => absurd g (by omega), fun g => absurd g (by omega), fun g => absurd g (by omega)⟩
  · change Q 8740067 at h
    exact ⟨fun g => absurd g (by omega), fun g => absurd g (by omega), fun g => absurd g (by omega), fun g => absurd g (by omega), fun g => absurd g (by omega), fun g => absurd g (by omega), fun g => absurd g (by omega), fun g => absurd g (by omega), fun g => absurd g (by omega), fun g => absurd g (by omega), fun g => absurd g (by omega), fun g => absurd g (by omega), fun g => absurd g (by omega), fun g => absurd g (by omega), fun g => absurd g (by omega), fun g => absurd g (by omega), fun g => absurd g (by omega), fun g => absurd g (by omega), fun _ => tq_sp4 (by omega) (by omega) (by omega) (by omega) (v := 323706) (by omega) (tq_on1 (by omega) (by omega) (v := 8740067) (by omega) h), fun g => absurd g (by omega), fun g => absurd g (by omega), fun g => absurd g (by omega)⟩
  · change Q 9753499 at h
    exact ⟨fun g => absurd g (by omega), fun g => absurd g (by omega), fun g => absurd g (by omega), fun g => absurd g (by omega), fun g => absurd g (by omega), fun g => absurd g (by omega), fun g => absurd g (by omega), fun g => absurd g (by omega), fun g => absurd g (by omega), fun g => absurd g (by omega), fun g => absurd g (by omega), fun g => absurd g (by omega), fun g => absurd g (by omega), fun g => absurd g (by omega), fun g => absurd g (by omega), fun g => absurd g (by omega), fun g => absurd g (by omega), fun g => absurd g (by omega), fun g => absurd g (by omega), fun _ => tq_sp4 (by omega) (by omega) (by omega) (by omega) (v := 361240) (by omega) (tq_on1 (by omega) (by omega) (v := 9753499) (by omega) h), fun g => absurd g (by omega), fun g => absurd g (by omega)⟩
  · change Q 283613333 at h
    exact ⟨fun g => absurd g (by omega), fun g => absurd g (by omega), fun g => absurd g (by omega), fun g => absurd g (by omega), fun g => absurd g (by omega), fun g => absurd g (by omega), fun g => absurd g (by omega), fun g => absurd g (by omega), fun g => absurd g (by omega), fun g => absurd g (by omega), fun g => absurd g (by omega), fun g => absurd g (by omega), fun g => absurd g (by omega), fun g => absurd g (by omega), fun g => absurd g (by omega), fun g => absurd g (by omega), fun g => absurd g (by omega), fun g => absurd g (by omega), fun g => absurd g (by omega), fun g => absurd g (by omega), fun _ => tq_sp4 (by omega) (by omega) (by omega) (by omega) (v := 389044) (by omega) (tq_on2 (by omega) (by omega) (by omega) (v := 283613333) (by omega) h), fun g => absurd g (by omega)⟩
  · change Q 235981828 at h
    exact ⟨fun g => absurd g (by omega), fun g => absurd g (by omega), fun g => absurd g (by omega), fun g => absurd g (by omega), fun g => absurd g (by omega), fun g => absurd g (by omega), fun g => absurd g (by omega), fun g => absurd g (by omega), fun g => absurd g (by omega), fun g => absurd g (by omega), fun g => absurd g (by omega), fun g => absurd g (by omega), fun g => absurd g (by omega), fun g => absurd g (by omega), fun g => absurd g (by omega), fun g => absurd g (by omega), fun g => absurd g (by omega), fun g => absurd g (by omega), fun g => absurd g (by omega), fun g => absurd g (by omega), fun g => absurd g (by omega), fun _ => tq_sp4 (by omega) (by omega) (by omega) (by omega) (v := 323706) (by omega) (tq_on2 (by omega) (by omega) (by omega) (v := 235981828) (by omega) h)⟩
  · change Q 400313 at h
    exact ⟨fun _ => tq_sp4 (by omega) (by omega) (by omega) (by omega) (v := 400313) (by omega) h, fun g => absurd g (by omega), fun g => absurd g (by omega), fun g => absurd g (by omega), fun g => absurd g (by omega), fun g => absurd g (by omega), fun g => absurd g (by omega), fun g => absurd g (by omega), fun g => absurd g (by omega), fun g => absurd g (by omega), fun g => absurd g (by omega), fun g => absurd g (by omega), fun g => absurd g (by omega), fun g => absurd g (by omega), fun g => absurd g (by omega), fun g => absurd g (by omega), fun g => absurd g (by omega), fun g => absurd g (by omega), fun g => absurd g (by omega), fun g => absurd g (by omega), fun g => absurd g (by omega), fun g => absurd g (by omega)⟩
theorem tX12_isWord {k : Nat} {q : Int} {Q : Int → Prop} (hk : k < 22) (H : sp_tM T lim (.inr q) s) (h : Q (pWd T lim (sp_wx k) (.inr q))) : fX12_isWord s k Q := by
  obtain ⟨h1, h2, h3, h4⟩ := H
  have e7 : s 64 7 = tK T lim q := h4.2.2.2.1
  have h : Q (if tK T lim q = 2 ∧ tW T q = sp_wv (sp_wx k) then 1 else 0) := h
  refine ⟨fun g => ?_, fun g => tX12_wordOf hk ?_⟩
  · rw [if_neg (fun z => g (by rw [e7]; exact z.1))] at h; exact h
  · have hk2 : tK T lim q = 2 := by rw [← e7]; exact g
    rw [h4.2.2.2.2.2.2.2 hk2]
    have hcmp : sg_cmp (tW T q) (sp_wv (sp_wx k)) = 0 ↔ tW T q = sp_wv (sp_wx k) := by
      unfold sg_cmp; split
      · omega
      · split <;> omega
    refine ⟨fun g2 => ?_, fun g2 => ?_⟩
    · rw [if_neg (fun z => g2 (hcmp.mpr z.2))] at h; exact h
    · rw [if_pos ⟨hk2, hcmp.mp g2⟩] at h; exact h
/-- readers: 1 and on they go, or 0 and there is the fault -/
theorem tX12_readNumber {lo hi q : Int} {Q : Int → sg_M → Prop} (hq : sp_tq T lim) (H : sp_tM T lim (.inr q) s) (h : ∀ t, sp_tF s t → sp_tM T lim (pNm T lim lo hi hi (.inr q)) t → (pOk (pNm T lim lo hi hi (.inr q)) = 1 → t 64 13 = pNv T lim lo hi hi (.inr q)) → Q (pOk (pNm T lim lo hi hi (.inr q))) t) : fX12_readNumber s lo hi Q := by
  have H' := H
  obtain ⟨h1, h2, h3, h4⟩ := H'
  have e7 : s 64 7 = tK T lim q := h4.2.2.2.1
  have eN : pNm T lim lo hi hi (.inr q) = if tK T lim q ≠ 3 then .inl (1, tA T lim q) else if tV T q < lo ∨ hi < tV T q then .inl (2, tA T lim q) else if hi < tV T q then .inl (4, tA T lim q) else .inr (tO T q) := rfl
  have eV : pNv T lim lo hi hi (.inr q) = if tK T lim q ≠ 3 then 0 else if tV T q < lo ∨ hi < tV T q then 0 else if hi < tV T q then 0 else tV T q := rfl
  refine ⟨fun g => ?_, fun g => ?_⟩
  · have hk : tK T lim q = 3 := by rw [← e7]; exact g
    have e8 : s 64 8 = tV T q := h4.2.2.2.2.2.1 hk
    rw [if_neg (by omega)] at eN eV
    rw [e8]
    refine tX12_isIn ?_
    split
    · rename_i g2
      rw [if_neg (by omega), if_neg (by omega)] at eN eV
      rw [eN, eV] at h
      refine ⟨fun _ s8 e9 => ?_, fun z => absurd z (by omega)⟩
      have H8 : sp_tM T lim (.inr q) s8 := sp_tM_kp H (fun c i z => by rw [e9, sg_upN _ (by omega)])
      refine tX12_adv hq H8 (by omega) (fun t hF h13 ht => h t (fun c i z => by rw [hF c i z, e9, sg_upN _ (by omega)]) ht (fun _ => ?_))
      rw [h13, e9, sg_upS]
    · rename_i g2
      rw [if_pos (by omega)] at eN eV
      rw [eN] at h
      exact ⟨fun z => absurd rfl z, fun _ => tX12_bad hq H (by omega) (by omega) (fun t hF ht => h t hF ht (fun z => absurd (show (0 : Int) = 1 from z) (by omega)))⟩
  · rw [if_pos (fun z => g (by rw [e7]; exact z))] at eN eV
    rw [eN] at h
    exact tX12_bad hq H (by omega) (by omega) (fun t hF ht => h t hF ht (fun z => absurd (show (0 : Int) = 1 from z) (by omega)))
theorem sp_tF_tr {a b c : sg_M} (h1 : sp_tF a b) (h2 : sp_tF b c) : sp_tF a c := fun x i z => (h2 x i z).trans (h1 x i z)
theorem sp_tF_rf (a : sg_M) : sp_tF a a := fun _ _ _ => rfl
def pSm (T : List Int) (lim most : Int) (r : sp_rp) : sp_rp := pNm T lim 0 most most (pSk T lim 45 r)
def pSv (T : List Int) (lim most : Int) (r : sp_rp) : Int := sp_sgn (pSg T lim 45 r) (pNv T lim 0 most most (pSk T lim 45 r))
theorem tX12_readSigned {most q : Int} {Q : Int → sg_M → Prop} (hq : sp_tq T lim) (H : sp_tM T lim (.inr q) s) (h : ∀ t, sp_tF s t → sp_tM T lim (pSm T lim most (.inr q)) t → (pOk (pSm T lim most (.inr q)) = 1 → t 64 13 = pSv T lim most (.inr q)) → Q (pOk (pSm T lim most (.inr q))) t) : fX12_readSigned s most Q := by
  unfold pSm pSv pSk at h
  refine tX12_isSign H ⟨fun g => ?_, fun g => ?_⟩
  · rw [if_pos g, g] at h
    unfold fX12_readSigned_j15
    rw [g]
    refine tX12_readNumber hq H (fun t hF ht h13 => ⟨fun z => ⟨fun _ => ?_, fun z2 => absurd rfl z2⟩, fun z => ?_⟩)
    · have h1 : pOk (pNm T lim 0 most most (.inr q)) = 1 := by
        revert z; generalize pNm T lim 0 most most (.inr q) = r'
        intro z; match r', z with
        | .inl f, z => exact absurd rfl z
        | .inr q', _ => rfl
      have := h t hF ht h13
      rw [h1] at this; exact this
    · have := h t hF ht h13
      rw [z] at this; exact this
  · rw [if_neg g] at h
    have h4 := pSg_1 g
    refine tX12_adv hq H (by omega) (fun t0 hF0 _ ht0 => ?_)
    have ht0' : sp_tM T lim (pAd T (.inr q)) t0 := ht0
    unfold fX12_readSigned_j15
    have h2q := H.2.1
    refine tX12_readNumber hq ht0 (fun t hF ht h13 => ⟨fun z => ⟨fun z2 => absurd z2 g, fun _ => ?_⟩, fun z => ?_⟩)
    · have h1 : pOk (pNm T lim 0 most most (.inr (tO T q))) = 1 := by
        revert z; generalize pNm T lim 0 most most (.inr (tO T q)) = r'
        intro z; match r', z with
        | .inl f, z => exact absurd rfl z
        | .inr q', _ => rfl
      have hv := pNv_rg (T := T) (lim := lim) 0 most most ht0.2.1
      have e13 := h13 h1
      refine ⟨by rw [e13]; omega, fun s10 e10 => ?_⟩
      have ht10 : sp_tM T lim (pNm T lim 0 most most (.inr (tO T q))) s10 := sp_tM_kp ht (fun c i z => by rw [e10, sg_upN _ (by omega)])
      have := h s10 (sp_tF_tr hF0 (fun c i z => by rw [e10, sg_upN _ (by omega)]; exact hF c i z)) ht10 (fun _ => by
        rw [e10, sg_upS, e13]; unfold sp_sgn; rw [if_neg g]; rfl)
      rw [show pAd T (.inr q) = .inr (tO T q) from rfl, h1] at this; exact this
    · have h0 : ¬ (pOk (pNm T lim 0 most most (.inr (tO T q))) = 1) := by rw [z]; omega
      have := h t (sp_tF_tr hF0 hF) ht (fun z2 => absurd z2 h0)
      rw [show pAd T (.inr q) = .inr (tO T q) from rfl, z] at this; exact this
theorem tX12_readEnd {q : Int} {Q : Int → sg_M → Prop} (hq : sp_tq T lim) (H : sp_tM T lim (.inr q) s) (h : ∀ t, sp_tF s t → sp_tM T lim (pMs T lim 59 (.inr q)) t → Q (pOk (pMs T lim 59 (.inr q))) t) : fX12_readEnd s Q := by
  unfold pMs at h
  refine tX12_isSign H ⟨fun g => ?_, fun g => ?_⟩
  · rw [if_neg g] at h
    have h4 := pSg_1 g
    exact tX12_adv hq H (by omega) (fun t hF _ ht => h t hF ht)
  · rw [if_pos g] at h
    exact tX12_bad hq H (by omega) (fun _ => rfl) (fun t hF ht => h t hF ht)
theorem tX12_readWord {k : Nat} {q : Int} {Q : Int → sg_M → Prop} (hk : k < 22) (hq : sp_tq T lim) (H : sp_tM T lim (.inr q) s) (h : ∀ t, sp_tF s t → sp_tM T lim (pMw T lim (sp_wx k) (.inr q)) t → Q (pOk (pMw T lim (sp_wx k) (.inr q))) t) : fX12_readWord s k Q := by
  unfold pMw at h
  refine tX12_isWord hk H ⟨fun g => ?_, fun g => ?_⟩
  · rw [if_neg g] at h
    have h4 := pWd_1 g
    exact tX12_adv hq H (by omega) (fun t hF _ ht => h t hF ht)
  · rw [if_pos g] at h
    exact tX12_bad hq H (by omega) (fun _ => rfl) (fun t hF ht => h t hF ht)
theorem pOk_inr {r : sp_rp} (h : pOk r ≠ 0) : ∃ q, r = .inr q := by
  match r, h with
  | .inl f, h => exact absurd rfl h
  | .inr q, _ => exact ⟨q, rfl⟩
theorem pOk_inl {r : sp_rp} (h : pOk r = 0) : ∃ f, r = .inl f := by
  match r, h with
  | .inl f, _ => exact ⟨f, rfl⟩
  | .inr q, h => exact absurd (show (1 : Int) = 0 from h) (by omega)
/-- the text is taken -/
theorem tX12_begin {most : Int} {Q : sg_M → Prop} {z : sp_Z} (H : sp_RM s z) (hq : sp_tq (zT z) most) (h : ∀ t, t 64 20 ≠ 0 → (∀ c i, (c = 64 → i < 3 ∨ 13 < i) → (c = 64 → i ≠ 0 ∧ i ≠ 2) → t c i = sp_ly (sg_up s 64 0 0) c i) → t 64 2 = 0 → sp_tM (zT z) most (.inr 0) t → Q t) : fX12_begin s most Q := by
  obtain ⟨H0, h20, F0, -⟩ := sp_go H
  intro s1 e1
  rw [← e1] at H0 h20 F0
  refine tX12_lay ?_
  intro s6 e6 s7 e7 s9 e9 s11 e11 s13 e13
  have f : ∀ c i, (c = 64 → i ≠ 2 ∧ i ≠ 3 ∧ i ≠ 4 ∧ i ≠ 5 ∧ i ≠ 10) → s13 c i = sp_ly s1 c i := fun c i g => by
    rw [e13, sg_upN _ (by omega), e11, sg_upN _ (by omega), e9, sg_upN _ (by omega), e7, sg_upN _ (by omega), e6, sg_upN _ (by omega)]
  obtain ⟨hT1, hT2⟩ := H0.1
  have hT13 : sg_ar (s13 65) 0 (zT z) := sg_ar_congr _ 0 (fun i _ _ => (f 65 i (by omega)).symm) hT2
  refine tX12_go (T := zT z) (lim := most) hq.1 hq.2.1 ?_ hT13 ?_ hq.2.2 (q := 0) (by omega) (by rw [e13, sg_upS]) (fun t hF ht => h t ?_ (fun c i g1 g2 => ?_) ?_ ⟨sg_ar_congr _ 0 (fun i _ _ => (hF 65 i (by omega) (by omega)).symm) hT13, ⟨by omega, by omega⟩, ?_, ht⟩)
  · rw [e13, sg_upN _ (by omega), e11, sg_upN _ (by omega), e9, sg_upN _ (by omega), e7, sg_upS]; exact hT1
  · rw [e13, sg_upN _ (by omega), e11, sg_upN _ (by omega), e9, sg_upS]
  · rw [hF 64 20 (by omega) (by omega), f 64 20 (by omega)]; exact h20
  · rw [← e1, hF c i (by omega) (by omega)]; exact f c i (by omega)
  · rw [hF 64 2 (by omega) (by omega), e13, sg_upN _ (by omega), e11, sg_upN _ (by omega), e9, sg_upN _ (by omega), e7, sg_upN _ (by omega), e6, sg_upS]
  · rw [hF 64 10 (by omega) (by omega), e13, sg_upN _ (by omega), e11, sg_upS]
end SGTq
