/-! LEVEL 2: which. -/
noncomputable section SGKd
variable {La : sg_L} {s : sg_M} {z : sp_Z}
def sp_pr (T : List Int) (i : Int) : Int := sp_at T i * 256 + sp_at T (i + 1)
def sp_wk (T : List Int) (m : Int) : Nat → Int → Int
  | 0, _ => 1
  | r + 1, i => if m ≤ sp_at T i then 0 else if 1 ≤ sp_pr T (i + 1) ∧ sp_pr T (i + 1) ≤ 2000 then sp_wk T m r (i + 3) else 0
def sp_ft (B : sg_M) (T A D : List Int) (sl : Int) : Nat → Int → Int
  | 0, _ => 1
  | r + 1, i => if sp_nr (sp_vo B (sp_at A (sp_at T i)) (sp_at D (sp_at T i))).1 (sp_pr T (i + 1)) sl then sp_ft B T A D sl r (i + 3) else 0
def sp_bt (z : sp_Z) (sl : Int) : Nat → Int → Int → Int
  | 0, _, b => b
  | r + 1, k, b => sp_bt z sl r (k + 1) (match nS (zN z) k with
    | none => b
    | some B => if sp_ft B (zT z) (nKa (zN z)) (nKb (zN z)) sl ((zT z).length / 3) 0 = 0 then b else sg_or b (sg_shl 1 k))
abbrev sp_wc (z : sp_Z) (sl : Int) : Prop := 0 ≤ sl ∧ sl ≤ 200 ∧ 3 ≤ (zT z).length ∧ (zT z).length ≤ 120 ∧ (zT z).length % 3 = 0 ∧ sp_wk (zT z) (nKa (zN z)).length ((zT z).length / 3) 0 = 1
def aWhich (z : sp_Z) (sl : Int) : Int := if sp_wc z sl then sp_bt z sl 4 0 0 else -1
def yWhich (z : sp_Z) : sp_Z := zT' z []
theorem tX8_byteAt {T : List Int} {i : Int} {Q : Int → Prop} (hT : s 1 1 = T.length ∧ sg_ar (s 2) 0 T) (hl : T.length ≤ 540) (h : Q (sp_at T i)) : fX8_byteAt s i Q := by
  unfold fX8_byteAt
  rw [hT.1]
  refine ⟨fun g => by rw [sp_at_out (Or.inl g)] at h; exact h, fun g => ⟨fun g2 => by rw [sp_at_out (Or.inr g2)] at h; exact h, fun g2 => ⟨by omega, fun g3 => ⟨by omega, ?_⟩, fun g3 => absurd g3 (by omega)⟩⟩⟩
  rw [sp_at_in hT.2 (by omega) (by omega)]; exact h
theorem sp_at_by {T : List Int} (hb : ∀ x, x ∈ T → 0 ≤ x ∧ x ≤ 255) (i : Int) : -1 ≤ sp_at T i ∧ sp_at T i ≤ 255 := by
  by_cases h : 0 ≤ i ∧ i < T.length
  · have := hb _ (sp_at_mem h.1 h.2); omega
  · rw [sp_at_out (by omega)]; omega
theorem sp_at_b0 {T : List Int} (hb : ∀ x, x ∈ T → 0 ≤ x ∧ x ≤ 255) {i : Int} (h0 : 0 ≤ i) (h1 : i < T.length) : 0 ≤ sp_at T i ∧ sp_at T i ≤ 255 := hb _ (sp_at_mem h0 h1)
theorem tX8_pairAt {T : List Int} {i : Int} {Q : Int → Prop} (hT : s 1 1 = T.length ∧ sg_ar (s 2) 0 T) (hl : T.length ≤ 540) (hb : ∀ x, x ∈ T → 0 ≤ x ∧ x ≤ 255) (hi : -1000 ≤ i ∧ i ≤ 1000) (h : Q (sp_pr T i)) : fX8_pairAt s i Q := by
  have a1 := sp_at_by hb i
  have a2 := sp_at_by hb (i + 1)
  refine tX8_byteAt hT hl ⟨by omega, tX8_byteAt hT hl ⟨by omega, h⟩⟩
theorem sp_ttL {T : List Int} {m : Int} {Q : Int → Prop} (hT : s 1 1 = T.length ∧ sg_ar (s 2) 0 T) (hl : T.length ≤ 120) (hb : ∀ x, x ∈ T → 0 ≤ x ∧ x ≤ 255) (hm : s 20 2 = m) : ∀ (r : Nat) (i : Int), 0 ≤ i → i + 3 * r = T.length → Q (sp_wk T m r i) → fX11_tellsTones_L39 s Q (r + 1) i
  | 0, i, h0, hi, h => by
    rw [fX11_tellsTones_L39, hT.1]
    exact ⟨fun _ => h, fun hh => absurd (show (T.length : Int) ≤ i by omega) hh⟩
  | r + 1, i, h0, hi, h => by
    rw [fX11_tellsTones_L39, hT.1, hm]
    rw [sp_wk] at h
    refine ⟨fun hh => absurd hh (by omega), fun _ => tX8_byteAt hT (by omega) ⟨fun g => ?_, fun g => ⟨by omega, tX8_pairAt hT (by omega) hb (by omega) (tX11_isTone ?_)⟩⟩⟩
    · rw [if_pos g] at h; exact h
    · rw [if_neg g] at h
      split
      · rename_i g2
        rw [if_pos g2] at h
        exact ⟨fun _ => ⟨by omega, sp_ttL hT hl hb hm r (i + 3) (by omega) (by omega) h⟩, fun hh => absurd hh (by omega)⟩
      · rename_i g2
        rw [if_neg g2] at h
        exact ⟨fun hh => absurd rfl hh, fun _ => h⟩
theorem sp_tmod3 (n : Nat) : Int.tmod (n : Int) 3 = ((n % 3 : Nat) : Int) := by rw [Int.tmod_eq_emod_of_nonneg (by omega)]; omega
theorem sp_tdiv3 (n : Nat) : Int.tdiv (n : Int) 3 = ((n / 3 : Nat) : Int) := by rw [Int.tdiv_eq_ediv_of_nonneg (by omega)]; omega
theorem sp_wk_B (T : List Int) (m : Int) : ∀ (r : Nat) (i : Int), sp_wk T m r i = 0 ∨ sp_wk T m r i = 1
  | 0, _ => Or.inr rfl
  | r + 1, i => by
    rw [sp_wk]; repeat' split
    · exact Or.inl rfl
    · exact sp_wk_B T m r _
    · exact Or.inl rfl
theorem sp_ft_B (B : sg_M) (T A D : List Int) (sl : Int) : ∀ (r : Nat) (i : Int), sp_ft B T A D sl r i = 0 ∨ sp_ft B T A D sl r i = 1
  | 0, _ => Or.inr rfl
  | r + 1, i => by
    rw [sp_ft]; split
    · exact sp_ft_B B T A D sl r _
    · exact Or.inl rfl
theorem sp_wk_ok {T : List Int} {m : Int} : ∀ (r : Nat) (i : Int), sp_wk T m r i = 1 → ∀ j : Nat, j < r → sp_at T (i + 3 * j) < m ∧ 1 ≤ sp_pr T (i + 3 * j + 1) ∧ sp_pr T (i + 3 * j + 1) ≤ 2000
  | 0, _, _, j, hj => by omega
  | r + 1, i, h, j, hj => by
    rw [sp_wk] at h
    split at h
    · omega
    · split at h
      · rename_i g g2
        match j with
        | 0 =>
          rw [show i + 3 * ((0 : Nat) : Int) = i by omega]
          exact ⟨by omega, g2⟩
        | j + 1 =>
          have := sp_wk_ok r (i + 3) h j (by omega)
          rw [show i + 3 * ((j + 1 : Nat) : Int) = i + 3 + 3 * j by omega]; exact this
      · omega
theorem sp_fiL1 {B : sg_M} {o sl : Int} {Q : Int → sg_M → Prop} (hst : sg_St La) (h89 : 89 ≤ La.1) (hw : sp_wZ z) (H : sp_RC La s z) (hok : sp_ok B) (ho : (0 ≤ o ∧ o < 20) ∨ 89 ≤ o) (hB : sp_cB s o B) (hl : (zT z).length ≤ 120) (hwk : ∀ j : Nat, j < (zT z).length / 3 → sp_at (zT z) (3 * j) < (nKa (zN z)).length) (h3 : (zT z).length % 3 = 0)
    (hQ : ∀ t, (∀ c i, c < 32 ∨ 36 < c → t c i = s c i) → Q (sp_ft B (zT z) (nKa (zN z)) (nKb (zN z)) sl ((zT z).length / 3) 0) t) :
    ∀ (r j : Nat) (t : sg_M), j + r = (zT z).length / 3 → (∀ c i, c < 32 ∨ 36 < c → t c i = s c i) → sp_ft B (zT z) (nKa (zN z)) (nKb (zN z)) sl r (3 * j) = sp_ft B (zT z) (nKa (zN z)) (nKb (zN z)) sl ((zT z).length / 3) 0 → fX11_isFitting_L2 La o sl Q (r + 1) t (3 * j)
  | 0, j, t, hj, hF, he => by
    have H' := H
    rw [sp_RC_eq] at H'
    obtain ⟨hT, -⟩ := H'
    have h := hQ t hF
    rw [← he, sp_ft] at h
    rw [fX11_isFitting_L2, hF 1 1 (by omega), hT.1]
    exact ⟨fun _ => h, fun hh => absurd (show ((zT z).length : Int) ≤ 3 * j by omega) hh⟩
  | r + 1, j, t, hj, hF, he => by
    have H' := H
    rw [sp_RC_eq] at H'
    obtain ⟨hT, -, ⟨-, -, -, ⟨-, -, hKn, hKa, hKb⟩, -⟩, -⟩ := H'
    have hb := hw.2.1
    have hlen := hw.2.2.1.2.2.2.2.2.2.1
    have hlen2 := hw.2.2.1.2.2.2.2.2.1
    have hTt : t 1 1 = (zT z).length ∧ sg_ar (t 2) 0 (zT z) := sp_kT hT (fun c i q => hF c i (by omega))
    have hk := hwk j (by omega)
    have hk0 := sp_at_b0 hb (i := 3 * j) (by omega) (by omega)
    rw [fX11_isFitting_L2, hTt.1]
    refine ⟨fun hh => absurd hh (by omega), fun _ => tX8_byteAt hTt (by omega) ?_⟩
    refine tX4_at (l := nKa (zN z)) (c := 40) (sp_ln hst 22 10040 rfl) (by omega) (by rw [hF 21 1 (by omega)]; exact hKa.1) (by omega) (sg_ar_congr _ 0 (fun i _ _ => (hF _ i (by omega)).symm) hKa.2) ?_
    refine tX4_at (l := nKb (zN z)) (c := 40) (sp_ln hst 24 10040 rfl) (by omega) (by rw [hF 23 1 (by omega)]; exact hKb.1) (by omega) (sg_ar_congr _ 0 (fun i _ _ => (hF _ i (by omega)).symm) hKb.2) ?_
    refine tX11_listenTo hst hok (sp_bd_at hw.2.2.1.2.2.2.2.2.2.2.1 hk0.1 hk) (sp_bd_at hw.2.2.1.2.2.2.2.2.2.2.2.1 hk0.1 (by omega)) (by omega) (sp_cB_same hB (fun i => hF _ _ (by omega)) (fun i => hF _ _ (by omega)) (fun i => hF _ _ (by omega)) (fun i => hF _ _ (by omega)) (fun i => hF _ _ (by omega))) (fun u hFu hbt hvc => ?_)
    have fu : ∀ c i, c < 32 ∨ 36 < c → u c i = s c i := fun c i q => by rw [hFu c i (by omega) (by omega)]; exact hF c i q
    have hTu : u 1 1 = (zT z).length ∧ sg_ar (u 2) 0 (zT z) := sp_kT hT (fun c i q => fu c i (by omega))
    have p1 := sp_at_b0 hb (i := 3 * j + 1) (by omega) (by omega)
    have p2 := sp_at_b0 hb (i := 3 * j + 1 + 1) (by omega) (by omega)
    have hv := (sp_vo_rg hok (sp_at (nKa (zN z)) (sp_at (zT z) (3 * j))) (sp_at (nKb (zN z)) (sp_at (zT z) (3 * j)))).1
    rw [sp_ft] at he
    refine ⟨by omega, tX8_pairAt hTu (by omega) hb (by omega) ?_⟩
    rw [hvc.1]
    refine tX11_isNear (by omega) (by unfold sp_pr; omega) ?_
    split
    · rename_i g
      rw [if_pos g] at he
      refine ⟨fun _ => ⟨by omega, ?_⟩, fun hh => absurd hh (by omega)⟩
      have ih := sp_fiL1 hst h89 hw H hok ho hB hl hwk h3 hQ r (j + 1) u (by omega) fu (by rw [show (3 : Int) * ((j + 1 : Nat) : Int) = 3 * j + 3 by omega]; exact he)
      rw [show (3 : Int) * ((j + 1 : Nat) : Int) = 3 * j + 3 by omega] at ih; exact ih
    · rename_i g
      rw [if_neg g] at he
      refine ⟨fun hh => absurd rfl hh, fun _ => ?_⟩
      have h := hQ u fu
      rw [← he] at h; exact h
theorem sp_wlL {sl : Int} {Q : Int → sg_M → Prop} (hst : sg_St La) (h89 : 89 ≤ La.1) (hw : sp_wZ z) (H : sp_RC La s z) (hl : (zT z).length ≤ 120) (hwk : ∀ j : Nat, j < (zT z).length / 3 → sp_at (zT z) (3 * j) < (nKa (zN z)).length) (h3 : (zT z).length % 3 = 0)
    (hQ : ∀ t, (∀ c i, c < 32 ∨ 36 < c → t c i = s c i) → Q (sp_bt z sl 4 0 0) (sg_up t 1 1 0)) :
    ∀ (r : Nat) (k b : Int) (t : sg_M), 0 ≤ k → k + r = 4 → (∀ c i, c < 32 ∨ 36 < c → t c i = s c i) → sp_bt z sl r k b = sp_bt z sl 4 0 0 → fX11_which_L33 La sl 1 Q (r + 1) t b k
  | 0, k, b, t, hk, hkr, hF, he => by
    have h := hQ t hF
    rw [← he, sp_bt] at h
    rw [fX11_which_L33]
    exact ⟨fun hh => absurd hh (by omega), fun _ => ⟨fun _ => fun s9 h9 => by rw [h9]; exact h, fun hh => absurd (show (4 : Int) ≤ k by omega) hh⟩⟩
  | r + 1, k, b, t, hk, hkr, hF, he => by
    have H' := H
    rw [sp_RC_eq] at H'
    obtain ⟨-, -, ⟨-, -, -, -, n5⟩, -⟩ := H'
    rw [fX11_which_L33, hF 25 k (by omega)]
    simp only [fX11_which_j81]
    refine ⟨fun hh => absurd hh (by omega), fun _ => ⟨fun hh => absurd hh (by omega), fun _ => ⟨by omega, fun g => ⟨by omega, ?_⟩, fun g => ⟨by omega, g, ?_⟩⟩⟩⟩
    · rcases n5 k hk (by omega) with ⟨q, -⟩ | ⟨q, -⟩
      · rw [sp_bt, q] at he
        exact sp_wlL hst h89 hw H hl hwk h3 hQ r (k + 1) b t (by omega) (by omega) hF he
      · omega
    · rcases n5 k hk (by omega) with ⟨-, q⟩ | ⟨-, B, q1, q2⟩
      · omega
      · rw [sp_bt, q1] at he
        change sp_bt z sl r (k + 1) (if sp_ft B (zT z) (nKa (zN z)) (nKb (zN z)) sl ((zT z).length / 3) 0 = 0 then b else sg_or b (sg_shl 1 k)) = _ at he
        have hok := hw.2.2.1.2.2.2.2.2.2.2.2.2 k B q1
        have hrr : (0 ≤ s 25 k ∧ s 25 k < 20) ∨ 89 ≤ s 25 k := by rcases q2.1.2 with q | q <;> omega
        have HR : sp_RC La t z := sp_RC_b H h89 (fun c i q => hF c i (by omega))
        have hBt : sp_cB t (s 25 k) B := sp_cB_same q2.2 (fun i => hF _ _ (by omega)) (fun i => hF _ _ (by omega)) (fun i => hF _ _ (by omega)) (fun i => hF _ _ (by omega)) (fun i => hF _ _ (by omega))
        refine ⟨(zT z).length / 3 + 1, ?_⟩
        refine sp_fiL1 (B := B) (o := s 25 k) (sl := sl) hst h89 hw HR hok hrr hBt hl hwk h3 (fun u fu => ?_) ((zT z).length / 3) 0 t (by omega) (fun _ _ _ => rfl) rfl
        have fu' : ∀ c i, c < 32 ∨ 36 < c → u c i = s c i := fun c i q => by rw [fu c i q]; exact hF c i q
        rcases sp_ft_B B (zT z) (nKa (zN z)) (nKb (zN z)) sl ((zT z).length / 3) 0 with e0 | e1
        · rw [e0] at he ⊢
          exact ⟨fun _ => ⟨by omega, sp_wlL hst h89 hw H hl hwk h3 hQ r (k + 1) b u (by omega) (by omega) fu' he⟩, fun hh => absurd rfl hh⟩
        · rw [e1] at he ⊢
          exact ⟨fun hh => absurd hh (by omega), fun _ => ⟨by omega, sp_wlL hst h89 hw H hl hwk h3 hQ r (k + 1) _ u (by omega) (by omega) fu' he⟩⟩
theorem k1Which {sl : Int} {Q : Int → sg_M → Prop} (hst : sg_St La) (h89 : 89 ≤ La.1) (hw : sp_wZ z) (H : sp_RC La s z) (h : ∀ s', sp_FM s s' → sp_RC La s' (yWhich z) → Q (aWhich z sl) s') : fX11_which La s sl Q := by
  have H' := H
  rw [sp_RC_eq] at H'
  obtain ⟨hT, -, ⟨-, -, -, ⟨-, -, hKn, hKa, hKb⟩, -⟩, -⟩ := H'
  have hb := hw.2.1
  have emp : ∀ t, (∀ c i, c < 32 ∨ 36 < c → t c i = s c i) → sp_RC La (sg_up t 1 1 0) (yWhich z) ∧ sp_FM s (sg_up t 1 1 0) := fun t hF => by
    have HR : sp_RC La t z := sp_RC_b H h89 (fun c i q => hF c i (by omega))
    exact ⟨sp_RC_T HR h89 (fun c i q1 _ => sg_upN _ (by omega)) ⟨by rw [sg_upS]; rfl, trivial⟩, fun c i q1 q2 => by rw [sg_upN _ (by omega)]; exact hF c i (by omega)⟩
  have no : ¬ sp_wc z sl → fX11_which_j19 La s sl Q 0 := fun g => by
    unfold aWhich at h; rw [if_neg g] at h
    refine ⟨fun _ => ⟨1, ?_⟩, fun hh => absurd rfl hh⟩
    rw [fX11_which_L33]
    have k := emp s (fun _ _ _ => rfl)
    exact ⟨fun _ => fun s5 h5 => by rw [h5]; exact h _ k.2 k.1, fun hh => absurd rfl hh⟩
  refine tX11_isSlip ?_
  split
  · rename_i g
    refine ⟨fun hh => absurd hh (by omega), fun _ => ?_⟩
    have key : fX11_tellsTones s (fun u31 => (u31 = 0 → fX11_which_j18 (fX11_which_j19 La s sl Q)) ∧ (¬ u31 = 0 → fX11_which_j19 La s sl Q 1)) := by
      unfold fX11_tellsTones
      rw [hT.1, sp_tmod3]
      have no' : ¬ sp_wc z sl → ((0 : Int) = 0 → fX11_which_j18 (fX11_which_j19 La s sl Q)) ∧ (¬ (0 : Int) = 0 → fX11_which_j19 La s sl Q 1) := fun q => ⟨fun _ => no q, fun hh => absurd rfl hh⟩
      refine ⟨fun g2 => no' (by omega), fun g2 => ⟨fun g3 => no' (by omega), fun g3 => ⟨by omega, fun g4 => ⟨(zT z).length / 3 + 1, ?_⟩, fun g4 => no' (by omega)⟩⟩⟩
      refine sp_ttL hT (by omega) hb hKn ((zT z).length / 3) 0 (by omega) (by omega) ?_
      rcases sp_wk_B (zT z) (nKa (zN z)).length ((zT z).length / 3) 0 with e0 | e1
      · rw [e0]; exact no' (fun hh => by have := hh.2.2.2.2.2; omega)
      · rw [e1]
        have hc : sp_wc z sl := ⟨g.1, g.2, by omega, by omega, by omega, e1⟩
        unfold aWhich at h; rw [if_pos hc] at h
        have hwk := sp_wk_ok _ _ e1
        refine ⟨fun hh => absurd hh (by omega), fun _ => ⟨fun hh => absurd hh (by omega), fun _ => ⟨5, ?_⟩⟩⟩
        refine sp_wlL hst h89 hw H (by omega) (fun j hj => by have := (hwk j hj).1; rw [Int.zero_add] at this; exact this) (by omega) (fun t hF => ?_) 4 0 0 s (by omega) (by omega) (fun _ _ _ => rfl) rfl
        have k := emp t hF
        exact h _ k.2 k.1
    exact key
  · rename_i g
    exact ⟨fun _ => no (by omega), fun hh => absurd rfl hh⟩
/-! the reference -/
theorem sp_w6L {T : List Int} {n : Nat} {Q : Int → sg_M → Prop} {K : Prop} (HR : sp_R0 s z) (hT : sg_ar (s 65) 0 T) (hn : T.length = n) (hl : n ≤ 120) (hb : ∀ x, x ∈ T → 0 ≤ x ∧ x ≤ 255) (h3 : n % 3 = 0) (hQ : sp_wk T (nKa (zN z)).length (n / 3) 0 ≠ 1 → Q (-1) s) (hK : sp_wk T (nKa (zN z)).length (n / 3) 0 = 1 → K) :
    ∀ (r j : Nat), j + r = n / 3 → sp_wk T (nKa (zN z)).length r (3 * j) = sp_wk T (nKa (zN z)).length (n / 3) 0 → fX12_which_L51 n s Q K (r + 1) j
  | 0, j, hj, he => by
    rw [fX12_which_L51, sp_tdiv3]
    rw [sp_wk] at he
    exact ⟨by omega, fun _ => hK he.symm, fun hh => absurd (show ((n / 3 : Nat) : Int) ≤ j by omega) hh⟩
  | r + 1, j, hj, he => by
    rw [fX12_which_L51, sp_tdiv3]
    have e0 := sp_at_in hT (show 0 ≤ 3 * (j : Int) by omega) (by omega)
    have e1 := sp_at_in hT (show 0 ≤ 3 * (j : Int) + 1 by omega) (by omega)
    have e2 := sp_at_in hT (show 0 ≤ 3 * (j : Int) + 2 by omega) (by omega)
    have p0 := sp_at_b0 hb (i := 3 * j) (by omega) (by omega)
    have p1 := sp_at_b0 hb (i := 3 * j + 1) (by omega) (by omega)
    have p2 := sp_at_b0 hb (i := 3 * j + 2) (by omega) (by omega)
    rw [e0, e1, e2]
    have epr : 256 * sp_at T (3 * j + 1) + sp_at T (3 * j + 2) = sp_pr T (3 * j + 1) := by unfold sp_pr; rw [show 3 * (j : Int) + 1 + 1 = 3 * j + 2 by omega]; omega
    rw [epr]
    rw [sp_wk] at he
    refine ⟨by omega, fun hh => absurd hh (by omega), fun _ => ⟨by omega, tX12_isWritten HR ?_⟩⟩
    split
    · rename_i g
      rw [if_neg (by omega)] at he
      refine ⟨fun hh => absurd hh (by omega), fun _ => ⟨by omega, by omega, by rw [← epr]; omega, tX12_isIn ?_⟩⟩
      split
      · rename_i g2
        rw [if_pos g2] at he
        refine ⟨fun _ => ⟨by omega, ?_⟩, fun hh => absurd hh (by omega)⟩
        have ih := sp_w6L HR hT hn hl hb h3 hQ hK r (j + 1) (by omega) (by rw [show (3 : Int) * ((j + 1 : Nat) : Int) = 3 * j + 3 by omega]; exact he)
        rw [show ((j + 1 : Nat) : Int) = (j : Int) + 1 by omega] at ih; exact ih
      · rename_i g2
        rw [if_neg g2] at he
        exact ⟨fun hh => absurd rfl hh, fun _ => hQ (by omega)⟩
    · rename_i g
      rw [if_pos (by omega)] at he
      exact ⟨fun _ => hQ (by omega), fun hh => absurd rfl hh⟩
theorem sp_fiL2 {B : sg_M} {T : List Int} {n : Nat} {b sl : Int} {Q : Int → sg_M → Prop} (hw : sp_wZ z) (HR0 : sp_R0 s z) (hok : sp_ok B) (hb0 : 0 ≤ b) (hb1 : b ≤ 1040) (hB : sp_mBl (s 66) b B) (hT : sg_ar (s 65) 0 T) (hn : T.length = n) (hl : n ≤ 120) (hb : ∀ x, x ∈ T → 0 ≤ x ∧ x ≤ 255) (h3 : n % 3 = 0)
    (hwk : ∀ j : Nat, j < n / 3 → sp_at T (3 * j) < (nKa (zN z)).length) (hQ : ∀ t, sp_F3 s t → sp_R0 t z → Q (sp_ft B T (nKa (zN z)) (nKb (zN z)) sl (n / 3) 0) t) :
    ∀ (r j : Nat) (t : sg_M), j + r = n / 3 → sp_F3 s t → sp_R0 t z → sp_ft B T (nKa (zN z)) (nKb (zN z)) sl r (3 * j) = sp_ft B T (nKa (zN z)) (nKb (zN z)) sl (n / 3) 0 → fX12_isBladeOf_L3 b ((n / 3 : Nat) : Int) sl Q (r + 1) t j
  | 0, j, t, hj, hF, HR, he => by
    have h := hQ t hF HR
    rw [← he, sp_ft] at h
    rw [fX12_isBladeOf_L3]
    exact ⟨fun _ => h, fun hh => absurd (show ((n / 3 : Nat) : Int) ≤ j by omega) hh⟩
  | r + 1, j, t, hj, hF, HR, he => by
    have e65 : ∀ i, t 65 i = s 65 i := fun i => hF 65 i (by omega) (by omega)
    have e0 := sp_at_in hT (show 0 ≤ 3 * (j : Int) by omega) (by omega)
    have e1 := sp_at_in hT (show 0 ≤ 3 * (j : Int) + 1 by omega) (by omega)
    have e2 := sp_at_in hT (show 0 ≤ 3 * (j : Int) + 2 by omega) (by omega)
    have p0 := sp_at_b0 hb (i := 3 * j) (by omega) (by omega)
    have p1 := sp_at_b0 hb (i := 3 * j + 1) (by omega) (by omega)
    have p2 := sp_at_b0 hb (i := 3 * j + 2) (by omega) (by omega)
    have hk := hwk j (by omega)
    have hlen2 := hw.2.2.1.2.2.2.2.2.1
    rw [fX12_isBladeOf_L3, e65, e0]
    refine ⟨fun hh => absurd hh (by omega), fun _ => ⟨by omega, tX12_aOf hw HR p0.1 hk ⟨by omega, tX12_bOf hw HR p0.1 hk ?_⟩⟩⟩
    have hB' : sp_mBl (t 66) b B := by rw [show t 66 = s 66 from funext (fun i => hF 66 i (by omega) (by omega))]; exact hB
    refine tX12_voiceBy hok hb0 hb1 (sp_bd_at hw.2.2.1.2.2.2.2.2.2.2.1 p0.1 hk) (sp_bd_at hw.2.2.1.2.2.2.2.2.2.2.2.1 p0.1 (by omega)) (Or.inl rfl) (sp_mT_of hB') (fun u hFu hbt hvx => ?_)
    have HRu : sp_R0 u z := sp_R0_same HR (fun c i hr => hFu c i (by unfold sp_rdm at hr; omega) (by unfold sp_rdm at hr; omega))
    have hFu' : sp_F3 s u := fun c i q1 q2 => by rw [hFu c i q1 q2]; exact hF c i q1 q2
    have eu : ∀ i, u 65 i = s 65 i := fun i => hFu' 65 i (by omega) (by omega)
    rw [eu, eu, e1, e2]
    have epr : 256 * sp_at T (3 * j + 1) + sp_at T (3 * j + 2) = sp_pr T (3 * j + 1) := by unfold sp_pr; rw [show 3 * (j : Int) + 1 + 1 = 3 * j + 2 by omega]; omega
    rw [epr]
    have hv := (sp_vo_rg hok (sp_at (nKa (zN z)) (sp_at T (3 * j))) (sp_at (nKb (zN z)) (sp_at T (3 * j)))).1
    rw [sp_ft] at he
    refine ⟨by omega, by omega, by omega, tX12_isNear (by omega) (by omega) ?_⟩
    split
    · rename_i g
      rw [if_pos g] at he
      refine ⟨fun _ => ⟨by omega, ?_⟩, fun hh => absurd hh (by omega)⟩
      have ih := sp_fiL2 hw HR0 hok hb0 hb1 hB hT hn hl hb h3 hwk hQ r (j + 1) u (by omega) hFu' HRu (by rw [show (3 : Int) * ((j + 1 : Nat) : Int) = 3 * j + 3 by omega]; exact he)
      rw [show ((j + 1 : Nat) : Int) = (j : Int) + 1 by omega] at ih; exact ih
    · rename_i g
      rw [if_neg g] at he
      refine ⟨fun hh => absurd rfl hh, fun _ => ?_⟩
      have h := hQ u hFu' HRu
      rw [← he] at h; exact h
theorem sp_w7L {sl : Int} {n : Nat} {Q : Int → sg_M → Prop} {z' : sp_Z} (hw : sp_wZ z) (hz : zN z' = zN z) (hw' : sp_wZ z') (hT : sg_ar (s 65) 0 (zT z)) (hn : (zT z).length = n) (hl : n ≤ 120) (h3 : n % 3 = 0) (hwk : ∀ j : Nat, j < n / 3 → sp_at (zT z) (3 * j) < (nKa (zN z)).length)
    (hQ : ∀ t, sp_F3 s t → sp_R0 t z' → Q (sp_bt z sl 4 0 0) t) :
    ∀ (r : Nat) (k b : Int) (t : sg_M), 0 ≤ k → k + r = 4 → sp_F3 s t → sp_R0 t z' → sp_bt z sl r k b = sp_bt z sl 4 0 0 → fX12_which_L119 sl n Q (r + 1) t b k
  | 0, k, b, t, hk, hkr, hF, HR, he => by
    have h := hQ t hF HR
    rw [← he, sp_bt] at h
    rw [fX12_which_L119]
    exact ⟨fun _ => h, fun hh => absurd (show (4 : Int) ≤ k by omega) hh⟩
  | r + 1, k, b, t, hk, hkr, hF, HR, he => by
    rw [fX12_which_L119, sp_tdiv3]
    simp only [fX12_which_j160]
    refine ⟨fun hh => absurd hh (by omega), fun _ => tX12_isThere hw' HR ?_⟩
    have esh : sp_sh z' k = nS (zN z) k := by unfold sp_sh; rw [if_pos (by omega), hz]
    rw [esh]
    have hN := HR.2.2.1
    rw [hz, sp_mN_eq2] at hN
    obtain ⟨-, -, -, -, n5⟩ := hN
    cases hs : nS (zN z) k with
    | none =>
      rw [sp_bt, hs] at he
      exact ⟨fun _ => ⟨by omega, sp_w7L hw hz hw' hT hn hl h3 hwk hQ r (k + 1) b t (by omega) (by omega) hF HR he⟩, fun hh => absurd rfl hh⟩
    | some B =>
      rw [sp_bt, hs] at he
      change sp_bt z sl r (k + 1) (if sp_ft B (zT z) (nKa (zN z)) (nKb (zN z)) sl ((zT z).length / 3) 0 = 0 then b else sg_or b (sg_shl 1 k)) = _ at he
      have hok := hw.2.2.1.2.2.2.2.2.2.2.2.2 k B hs
      have hB : sp_mBl (t 66) (260 + 260 * k) B := by
        rcases n5 k hk (by omega) with ⟨q, -⟩ | ⟨B', q1, q2⟩
        · rw [hs] at q; cases q
        · rw [hs] at q1; cases q1; exact q2
      refine ⟨fun hh => absurd (show (1 : Int) = 0 from hh) (by decide), fun _ => ⟨by omega, by omega, ⟨n / 3 + 1, ?_⟩⟩⟩
      have hT' : sg_ar (t 65) 0 (zT z) := sg_ar_congr _ 0 (fun i _ _ => (hF 65 i (by omega) (by omega)).symm) hT
      refine sp_fiL2 (s := t) (z := z') (B := B) (T := zT z) (sl := sl) hw' HR hok (by omega) (by omega) hB hT' hn hl hw.2.1 h3 (by rw [hz]; exact hwk) (fun u hFu HRu => ?_) (n / 3) 0 t (by omega) (fun _ _ _ _ => rfl) HR rfl
      have hF' : sp_F3 s u := fun c i q1 q2 => by rw [hFu c i q1 q2]; exact hF c i q1 q2
      rw [hz]
      rw [hn] at he
      rcases sp_ft_B B (zT z) (nKa (zN z)) (nKb (zN z)) sl (n / 3) 0 with e0 | e1
      · rw [e0]
        rw [e0] at he
        exact ⟨fun _ => ⟨by omega, sp_w7L hw hz hw' hT hn hl h3 hwk hQ r (k + 1) b u (by omega) (by omega) hF' HRu he⟩, fun hh => absurd rfl hh⟩
      · rw [e1]
        rw [e1] at he
        refine ⟨fun hh => absurd hh (by omega), fun _ => fun v47 h47 => ⟨?_, by omega, ?_⟩⟩
        · rw [h47]; exact sg_or_R _ _
        · rw [h47]; exact sp_w7L hw hz hw' hT hn hl h3 hwk hQ r (k + 1) _ u (by omega) (by omega) hF' HRu he
theorem k2Which {sl : Int} {Q : Int → sg_M → Prop} (hw : sp_wZ z) (H : sp_RM s z) (h : ∀ s', sp_FC s s' → sp_RM s' (yWhich z) → Q (aWhich z sl) s') : fX12_which s sl Q := by
  obtain ⟨H0, h20, F0, -⟩ := sp_go H
  intro s1 h1
  rw [← h1] at H0 F0 h20
  refine tX12_lay ?_
  intro s2 h2
  have hT := H0.1
  rw [hT.1]
  have e2 : ∀ c i, (c = 64 → i ≠ 2) → s2 c i = sp_ly s1 c i := fun c i q => by rw [h2, sg_upN _ (by omega)]
  have H2 : sp_R0 s2 (yWhich z) := sp_R0_T H0 (fun c i q _ => e2 c i q) ⟨by rw [h2, sg_upS]; rfl, trivial⟩
  have F2 : sp_FC s s2 := fun c i q => by rw [e2 c i (by omega)]; exact F0 c i q
  have h20' : s2 64 20 ≠ 0 := by rw [e2 64 20 (by omega)]; exact h20
  have hT2 : sg_ar (s2 65) 0 (zT z) := sg_ar_congr _ 0 (fun i _ _ => (e2 65 i (by omega)).symm) hT.2
  have hlen540 := hw.1
  have no : ¬ sp_wc z sl → Q (-1) s2 := fun g => by
    unfold aWhich at h; rw [if_neg g] at h; exact h s2 F2 (sp_RM_of H2 h20')
  rw [sp_tmod3, sp_tdiv3]
  refine ⟨by omega, fun g => no (by omega), fun g => ⟨by omega, tX12_isIn ?_⟩⟩
  split
  · rename_i g2
    refine ⟨fun hh => absurd hh (by omega), fun _ => tX12_isIn ?_⟩
    split
    · rename_i g3
      refine ⟨fun _ => ⟨(zT z).length / 3 + 1, ?_⟩, fun hh => absurd hh (by omega)⟩
      refine sp_w6L (z := yWhich z) (T := zT z) H2 hT2 rfl (by omega) hw.2.1 (by omega) (fun q => no (fun hh => q hh.2.2.2.2.2)) (fun q => ⟨5, ?_⟩) ((zT z).length / 3) 0 (by omega) rfl
      have hc : sp_wc z sl := ⟨g3.1, g3.2, by omega, by omega, by omega, q⟩
      unfold aWhich at h; rw [if_pos hc] at h
      have hwk := sp_wk_ok _ _ q
      have hw' : sp_wZ (yWhich z) := by
        obtain ⟨a1, a2, a3⟩ := hw
        exact ⟨by show ([] : List Int).length ≤ 540; simp, fun x hx => (by cases hx), a3⟩
      refine sp_w7L (s := s2) (z' := yWhich z) hw rfl hw' hT2 rfl (by omega) (by omega) (fun j hj => by have := (hwk j hj).1; rw [Int.zero_add] at this; exact this) (fun t hF HR => ?_) 4 0 0 s2 (by omega) (by omega) (fun _ _ _ _ => rfl) H2 rfl
      exact h t (fun c i q => by rw [hF c i (by omega) (by omega)]; exact F2 c i q) (sp_RM_of HR (by rw [hF 64 20 (by omega) (by omega)]; exact h20'))
    · rename_i g3
      exact ⟨fun hh => absurd rfl hh, fun _ => no (by omega)⟩
  · rename_i g2
    exact ⟨fun _ => no (by omega), fun hh => absurd rfl hh⟩
theorem wWhich (hw : sp_wZ z) : sp_wZ (yWhich z) := by
  obtain ⟨a1, a2, a3⟩ := hw
  exact ⟨by show ([] : List Int).length ≤ 540; simp, fun x hx => (by cases hx), a3⟩
end SGKd
