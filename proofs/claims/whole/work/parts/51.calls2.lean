/-! LEVEL 2, calls: a.. is the answer, y.. the state behind; k1.. the class, k2.. the reference. -/
noncomputable section SGK2
variable {La : sg_L} {s : sg_M} {z : sp_Z}
def aFeed (z : sp_Z) : Int := if (zT z).length + 20 ≤ 540 then (zT z).length + 20 else -1
def yFeed (z : sp_Z) (a b c d e : Int) : sp_Z := if (zT z).length + 20 ≤ 540 then zT' z (sp_T5 (zT z) a b c d e) else z
theorem k1Feed {a b c d e : Int} {Q : Int → sg_M → Prop} (hw : sp_wZ z) (h89 : 89 ≤ La.1) (H : sp_RC La s z) (h : ∀ s', sp_FM s s' → sp_RC La s' (yFeed z a b c d e) → Q (aFeed z) s') : fX11_feed s a b c d e Q := by
  have H' := H
  rw [sp_RC_eq] at H'
  obtain ⟨hT, -⟩ := H'
  have hl := hw.1
  unfold fX11_feed
  rw [hT.1]
  refine ⟨by omega, fun g => ?_, fun g => ?_⟩
  · have g' : (zT z).length + 20 ≤ 540 := by omega
    unfold yFeed aFeed at h
    rw [if_pos g', if_pos g'] at h
    have hlb : ∀ x, (sp_by x).length = 4 := fun x => rfl
    refine tX8_append (by omega) hT (fun s1 e1 t1 => ?_)
    refine tX8_append (by simp only [List.length_append, hlb]; omega) t1 (fun s2 e2 t2 => ?_)
    refine tX8_append (by simp only [List.length_append, hlb]; omega) t2 (fun s3 e3 t3 => ?_)
    refine tX8_append (by simp only [List.length_append, hlb]; omega) t3 (fun s4 e4 t4 => ?_)
    refine tX8_append (by simp only [List.length_append, hlb]; omega) t4 (fun s5 e5 t5 => ?_)
    have ee : ∀ c i, (c = 1 → i ≠ 1) → c ≠ 2 → s5 c i = s c i := fun c i q1 q2 => by rw [e5 c i q1 q2, e4 c i q1 q2, e3 c i q1 q2, e2 c i q1 q2, e1 c i q1 q2]
    have ea : s5 1 1 = ((zT z).length : Int) + 20 := by
      rw [t5.1]; simp only [List.length_append, hlb]; omega
    rw [ea]
    exact h s5 (fun c i q1 q2 => ee c i (by omega) (by omega)) (sp_RC_T H h89 ee t5)
  · have g' : ¬ (zT z).length + 20 ≤ 540 := by omega
    unfold yFeed aFeed at h
    rw [if_neg g', if_neg g'] at h
    exact h s (fun _ _ _ _ => rfl) H
theorem k2Feed {a b c d e : Int} {Q : Int → sg_M → Prop} (hw : sp_wZ z) (H : sp_RM s z) (h : ∀ s', sp_FC s s' → sp_RM s' (yFeed z a b c d e) → Q (aFeed z) s') : fX12_feed s a b c d e Q := by
  obtain ⟨H0, F0⟩ := sp_go0 H
  have hl := hw.1
  intro s1 h1
  rw [← h1] at H0 F0
  have hT : s1 64 2 = (zT z).length ∧ sg_ar (s1 65) 0 (zT z) := by
    have := H0.1
    rw [sp_ly_o (by omega) (by omega)] at this
    refine ⟨this.1, sg_ar_congr _ 0 (fun i _ _ => ?_) this.2⟩
    exact sp_ly_o (by omega) (by omega)
  rw [hT.1]
  refine ⟨by omega, fun g => ?_, fun g => ?_⟩
  · have g' : (zT z).length + 20 ≤ 540 := by omega
    unfold yFeed aFeed at h
    rw [if_pos g', if_pos g'] at h
    have hlb : ∀ x, (sp_by x).length = 4 := fun x => rfl
    refine tX12_come (by omega) hT (fun s2 e1 t1 => ?_)
    refine tX12_come (by simp only [List.length_append, hlb]; omega) t1 (fun s3 e2 t2 => ?_)
    refine tX12_come (by simp only [List.length_append, hlb]; omega) t2 (fun s4 e3 t3 => ?_)
    refine tX12_come (by simp only [List.length_append, hlb]; omega) t3 (fun s5 e4 t4 => ?_)
    refine tX12_come (by simp only [List.length_append, hlb]; omega) t4 (fun s6 e5 t5 => ?_)
    have ee : ∀ c i, (c = 64 → i ≠ 2) → c ≠ 65 → s6 c i = s1 c i := fun c i q1 q2 => by rw [e5 c i q1 q2, e4 c i q1 q2, e3 c i q1 q2, e2 c i q1 q2, e1 c i q1 q2]
    have ea : s6 64 2 = ((zT z).length : Int) + 20 := by
      rw [t5.1]; simp only [List.length_append, hlb]; omega
    rw [ea]
    refine h s6 (fun c i q => by rw [ee c i (by omega) (by omega)]; exact F0 c i q) ?_
    refine sp_R0_T H0 (fun c i q1 q2 => ?_) ?_
    · unfold sp_ly; rw [ee 64 20 (by omega) (by omega), ee c i q1 q2]
    · refine ⟨by rw [sp_ly_o (by omega) (by omega)]; exact t5.1, sg_ar_congr _ 0 (fun i _ _ => ?_) t5.2⟩
      exact (sp_ly_o (by omega) (by omega)).symm
  · have g' : ¬ (zT z).length + 20 ≤ 540 := by omega
    unfold yFeed aFeed at h
    rw [if_neg g', if_neg g'] at h
    exact h s1 F0 H0
theorem wFeed {a b c d e : Int} (hw : sp_wZ z) : sp_wZ (yFeed z a b c d e) := by
  unfold yFeed; split
  · rename_i g
    obtain ⟨h1, h2, h3⟩ := hw
    refine ⟨?_, fun x hx => ?_, h3⟩
    · show (sp_T5 (zT z) a b c d e).length ≤ 540
      rw [sp_T5_len]; exact g
    · change x ∈ sp_T5 (zT z) a b c d e at hx
      unfold sp_T5 at hx
      simp only [List.mem_append] at hx
      rcases hx with ((((hx | hx) | hx) | hx) | hx) | hx
      · exact h2 x hx
      all_goals exact sp_by_rg _ _ hx
  · exact hw
def aEnd (z : sp_Z) (n : Int) : Int := if 0 ≤ n ∧ n ≤ (zT z).length then 1 else 0
def yEnd (z : sp_Z) (n : Int) : sp_Z := if 0 ≤ n ∧ n ≤ (zT z).length then zT' z ((zT z).take n.toNat) else z
theorem sg_ar_take {f : Int → Int} : ∀ (l : List Int) (b : Int) (n : Nat), sg_ar f b l → sg_ar f b (l.take n)
  | _, _, 0, _ => by simp [sg_ar]
  | [], _, n + 1, _ => by simp [sg_ar]
  | x :: l, b, n + 1, h => by
    rw [List.take_succ_cons]; exact ⟨h.1, sg_ar_take l (b + 1) n h.2⟩
theorem k1End {n : Int} {Q : Int → sg_M → Prop} (h89 : 89 ≤ La.1) (H : sp_RC La s z) (h : ∀ s', sp_FM s s' → sp_RC La s' (yEnd z n) → Q (aEnd z n) s') : fX11_end s n Q := by
  have H' := H
  rw [sp_RC_eq] at H'
  obtain ⟨hT, -⟩ := H'
  unfold fX11_end
  rw [hT.1]
  unfold yEnd aEnd at h
  refine ⟨fun g => ?_, fun g => ⟨fun g2 s6 h6 => ?_, fun g2 => ?_⟩⟩
  · rw [if_neg (by omega), if_neg (by omega)] at h; exact h s (fun _ _ _ _ => rfl) H
  · rw [if_pos (by omega), if_pos (by omega)] at h
    have ee : ∀ c i, (c = 1 → i ≠ 1) → s6 c i = s c i := fun c i q1 => by rw [h6, sg_upN _ (by omega)]
    refine h s6 (fun c i q1 q2 => ee c i (by omega)) (sp_RC_T H h89 (fun c i q1 q2 => ee c i q1) ⟨?_, ?_⟩)
    · rw [h6, sg_upS, List.length_take]; omega
    · exact sg_ar_congr _ 0 (fun i _ _ => (ee 2 i (by omega)).symm) (sg_ar_take _ _ _ hT.2)
  · rw [if_neg (by omega), if_neg (by omega)] at h; exact h s (fun _ _ _ _ => rfl) H
theorem k2End {n : Int} {Q : Int → sg_M → Prop} (H : sp_RM s z) (h : ∀ s', sp_FC s s' → sp_RM s' (yEnd z n) → Q (aEnd z n) s') : fX12_end s n Q := by
  obtain ⟨H0, F0⟩ := sp_go0 H
  intro s1 h1
  rw [← h1] at H0 F0
  have hT : s1 64 2 = (zT z).length ∧ sg_ar (s1 65) 0 (zT z) := by
    have := H0.1
    rw [sp_ly_o (by omega) (by omega)] at this
    refine ⟨this.1, sg_ar_congr _ 0 (fun i _ _ => ?_) this.2⟩
    exact sp_ly_o (by omega) (by omega)
  rw [hT.1]
  unfold yEnd aEnd at h
  refine ⟨fun g => ?_, fun g => ⟨fun g2 s6 h6 => ?_, fun g2 => ?_⟩⟩
  · rw [if_neg (by omega), if_neg (by omega)] at h; exact h s1 F0 H0
  · rw [if_pos (by omega), if_pos (by omega)] at h
    have ee : ∀ c i, (c = 64 → i ≠ 2) → s6 c i = s1 c i := fun c i q1 => by rw [h6, sg_upN _ (by omega)]
    refine h s6 (fun c i q => by rw [ee c i (by omega)]; exact F0 c i q) (sp_R0_T H0 (fun c i q1 q2 => ?_) ⟨?_, ?_⟩)
    · unfold sp_ly; rw [ee 64 20 (by omega), ee c i q1]
    · rw [sp_ly_o (by omega) (by omega), h6, sg_upS, List.length_take]; omega
    · refine sg_ar_congr _ 0 (fun i _ _ => ?_) (sg_ar_take _ _ _ hT.2)
      rw [sp_ly_o (by omega) (by omega), ee 65 i (by omega)]
  · rw [if_neg (by omega), if_neg (by omega)] at h; exact h s1 F0 H0
theorem wEnd {n : Int} (hw : sp_wZ z) : sp_wZ (yEnd z n) := by
  unfold yEnd; split
  · obtain ⟨h1, h2, h3⟩ := hw
    refine ⟨?_, fun x hx => h2 x (List.mem_of_mem_take hx), h3⟩
    show ((zT z).take n.toNat).length ≤ 540
    rw [List.length_take]; omega
  · exact hw
/-! fault, worth, formBy, run, bow, songAt, readAt, evenAt, count -/
theorem k1Fault {Q : Int → Prop} (H : sp_RC La s z) (h : Q (zF z)) : fX11_fault s Q := by
  rw [sp_RC_eq] at H; unfold fX11_fault; rw [H.2.1]; exact h
theorem k2Fault {Q : Int → sg_M → Prop} (H : sp_RM s z) (h : ∀ s', sp_FC s s' → sp_RM s' z → Q (zF z) s') : fX12_fault s Q := by
  obtain ⟨H0, F0⟩ := sp_go0 H
  intro s1 h1
  rw [← h1] at H0 F0
  have e : s1 64 10 = zF z := by have := H0.2.1; rw [sp_ly_o (by omega) (by omega)] at this; exact this
  rw [e]; exact h s1 F0 H0
theorem k1Worth {Q : Int → Prop} (H : sp_RC La s z) (h : Q (zW z)) : fX11_worth s Q := by
  rw [sp_RC_eq] at H; unfold fX11_worth; rw [H.2.2.2.2.2.2.1]; exact h
theorem k2Worth {Q : Int → sg_M → Prop} (H : sp_RM s z) (h : ∀ s', sp_FC s s' → sp_RM s' z → Q (zW z) s') : fX12_worth s Q := by
  obtain ⟨H0, F0⟩ := sp_go0 H
  intro s1 h1
  rw [← h1] at H0 F0
  have e : s1 64 38 = zW z := by have := H0.2.2.2.2.2.2.1; rw [sp_ly_o (by omega) (by omega)] at this; exact this
  rw [e]; exact h s1 F0 H0
theorem k1FormBy {Q : Int → Prop} (H : sp_RC La s z) (h : Q (zR z)) : fX11_formBy s Q := by
  rw [sp_RC_eq] at H; unfold fX11_formBy; rw [H.2.2.2.2.2.2.2.1]; exact h
theorem k2FormBy {Q : Int → sg_M → Prop} (H : sp_RM s z) (h : ∀ s', sp_FC s s' → sp_RM s' z → Q (zR z) s') : fX12_formBy s Q := by
  obtain ⟨H0, F0⟩ := sp_go0 H
  intro s1 h1
  rw [← h1] at H0 F0
  have e : s1 64 56 = zR z := by have := H0.2.2.2.2.2.2.2.1; rw [sp_ly_o (by omega) (by omega)] at this; exact this
  rw [e]; exact h s1 F0 H0
def aRun (z : sp_Z) (w : Int) : Int := if 0 ≤ w ∧ w ≤ 4 then zL z w else -1
theorem k1Run {w : Int} {Q : Int → Prop} (H : sp_RC La s z) (h : Q (aRun z w)) : fX11_run s w Q := by
  rw [sp_RC_eq] at H
  obtain ⟨-, -, -, -, hL, -⟩ := H
  unfold aRun at h
  unfold fX11_run
  rcases hL with ⟨g0, g1⟩ | ⟨g0, g2, g3, g5, g6, g4, b2, b3⟩
  · refine ⟨fun hh => absurd g0 hh, fun _ => ?_⟩
    split at h
    · rename_i hw; rw [g1 w hw.1 (by omega)] at h; exact h
    · exact h
  · refine ⟨fun _ => ⟨fun hh => ?_, fun hh => ?_, fun hh => ?_, fun hh => ?_, fun hh => ?_, fun hh => ?_⟩, fun hh => absurd hh g0⟩
    · rw [if_neg (by omega)] at h; exact h
    · rw [if_pos (by omega), hh] at h; rw [g2]; exact h
    · rw [if_pos (by omega), hh] at h; rw [g3]; exact h
    · rw [if_pos (by omega), hh] at h; rw [g5]
      exact ⟨fun q => by rw [q] at h; exact h, fun q => by rw [show zL z 2 = 1 by omega] at h; exact h⟩
    · rw [if_pos (by omega), hh] at h; rw [g6]
      exact ⟨fun q => by rw [q] at h; exact h, fun q => by rw [show zL z 3 = 1 by omega] at h; exact h⟩
    · rw [if_pos (by omega), hh] at h; rw [g4]; exact h
theorem tX12_isIn {x a b : Int} {Q : Int → Prop} (h : Q (if a ≤ x ∧ x ≤ b then 1 else 0)) : fX12_isIn x a b Q := by
  unfold fX12_isIn
  refine ⟨fun g => ?_, fun g => ⟨fun g2 => ?_, fun g2 => ?_⟩⟩
  · rw [if_neg (by omega)] at h; exact h
  · rw [if_neg (by omega)] at h; exact h
  · rw [if_pos (by omega)] at h; exact h
theorem k2Run {w : Int} {Q : Int → sg_M → Prop} (H : sp_RM s z) (h : ∀ s', sp_FC s s' → sp_RM s' z → Q (aRun z w) s') : fX12_run s w Q := by
  obtain ⟨H0, F0⟩ := sp_go0 H
  intro s1 h1
  rw [← h1] at H0 F0
  have h := h s1 F0 H0
  unfold aRun at h
  refine tX12_isIn ?_
  split
  · rename_i g
    rw [if_pos g] at h
    refine ⟨fun hh => absurd hh (by omega), fun _ => ⟨by omega, ?_⟩⟩
    have := H0.2.2.2.2.1 w g.1 (by omega)
    rw [sp_ly_o (by omega) (by omega)] at this
    rw [this]; exact h
  · rename_i g
    rw [if_neg g] at h
    exact ⟨fun _ => h, fun hh => absurd rfl hh⟩
theorem k1Bow {i : Int} {Q : Int → Prop} (hst : sg_St La) (hw : sp_wZ z) (H : sp_RC La s z) (h : Q (sp_at (zG z) i)) : fX11_bow La s i Q := by
  rw [sp_RC_eq] at H
  obtain ⟨-, -, -, -, -, hG, -⟩ := H
  exact tX4_at (c := 60) (sp_ln hst 39 10060 rfl) (by omega) hG.1 (by have := hw.2.2.2.2.1; omega) hG.2 h
theorem k1SongAt {i : Int} {Q : Int → Prop} (hst : sg_St La) (hw : sp_wZ z) (H : sp_RC La s z) (h : Q (sp_at (zU z) i)) : fX11_songAt La s i Q := by
  rw [sp_RC_eq] at H
  obtain ⟨-, -, -, -, -, -, -, -, -, -, hU, -⟩ := H
  exact tX4_at (c := 60) (sp_ln hst 51 10060 rfl) (by omega) hU.1 (by have := hw.2.2.2.2.2.2.2; omega) hU.2 h
theorem k1ReadAt {i : Int} {Q : Int → Prop} (hst : sg_St La) (hw : sp_wZ z) (H : sp_RC La s z) (h : Q (sp_at (zD z) i)) : fX11_readAt La s i Q := by
  rw [sp_RC_eq] at H
  obtain ⟨-, -, -, -, -, -, -, -, hD, -⟩ := H
  exact tX4_at (c := 40) (sp_ln hst 53 10040 rfl) (by omega) hD.1 (by have := hw.2.2.2.2.2.1; omega) hD.2 h
theorem k1EvenAt {i : Int} {Q : Int → Prop} (hst : sg_St La) (hw : sp_wZ z) (H : sp_RC La s z) (h : Q (sp_at (zE z) i)) : fX11_evenAt La s i Q := by
  rw [sp_RC_eq] at H
  obtain ⟨-, -, -, -, -, -, -, -, -, hE, -⟩ := H
  exact tX4_at (c := 21) (sp_ln hst 55 10021 rfl) (by omega) hE.1 (by have := hw.2.2.2.2.2.2.1; omega) hE.2 h
theorem k2Bow {i : Int} {Q : Int → sg_M → Prop} (hw : sp_wZ z) (H : sp_RM s z) (h : ∀ s', sp_FC s s' → sp_RM s' z → Q (sp_at (zG z) i) s') : fX12_bow s i Q := by
  obtain ⟨H0, F0⟩ := sp_go0 H
  intro s1 h1
  rw [← h1] at H0 F0
  have h := h s1 F0 H0
  obtain ⟨-, -, -, -, -, ⟨g1, g2⟩, -⟩ := H0
  rw [sp_ly_o (by omega) (by omega)] at g1
  have := hw.2.2.2.2.1
  rw [g1]
  refine ⟨fun q => by rw [sp_at_out (Or.inl q)] at h; exact h, fun q => ⟨fun q2 => by rw [sp_at_out (Or.inr q2)] at h; exact h, fun q2 => ⟨by omega, ?_⟩⟩⟩
  have e := sp_at_in g2 (show 0 ≤ i by omega) (by omega)
  rw [sp_ly_o (by omega) (by omega)] at e
  rw [e]; exact h
theorem k2SongAt {i : Int} {Q : Int → sg_M → Prop} (hw : sp_wZ z) (H : sp_RM s z) (h : ∀ s', sp_FC s s' → sp_RM s' z → Q (sp_at (zU z) i) s') : fX12_songAt s i Q := by
  obtain ⟨H0, F0⟩ := sp_go0 H
  intro s1 h1
  rw [← h1] at H0 F0
  have h := h s1 F0 H0
  obtain ⟨-, -, -, -, -, -, -, -, -, -, g1, g2⟩ := H0
  rw [sp_ly_o (by omega) (by omega)] at g1
  have := hw.2.2.2.2.2.2.2
  rw [g1]
  refine ⟨fun q => by rw [sp_at_out (Or.inl q)] at h; exact h, fun q => ⟨fun q2 => by rw [sp_at_out (Or.inr q2)] at h; exact h, fun q2 => ⟨by omega, ?_⟩⟩⟩
  have e := sp_at_in g2 (show 0 ≤ i by omega) (by omega)
  rw [sp_ly_o (by omega) (by omega)] at e
  rw [e]; exact h
theorem k2ReadAt {i : Int} {Q : Int → sg_M → Prop} (hw : sp_wZ z) (H : sp_RM s z) (h : ∀ s', sp_FC s s' → sp_RM s' z → Q (sp_at (zD z) i) s') : fX12_readAt s i Q := by
  obtain ⟨H0, F0⟩ := sp_go0 H
  intro s1 h1
  rw [← h1] at H0 F0
  have h := h s1 F0 H0
  obtain ⟨-, -, -, -, -, -, -, -, ⟨g1, g2⟩, -⟩ := H0
  rw [sp_ly_o (by omega) (by omega)] at g1
  have := hw.2.2.2.2.2.1
  rw [g1]
  refine ⟨fun q => by rw [sp_at_out (Or.inl q)] at h; exact h, fun q => ⟨fun q2 => by rw [sp_at_out (Or.inr q2)] at h; exact h, fun q2 => ⟨by omega, ?_⟩⟩⟩
  have e := sp_at_in g2 (show 0 ≤ i by omega) (by omega)
  rw [sp_ly_o (by omega) (by omega)] at e
  rw [e]; exact h
theorem k2EvenAt {i : Int} {Q : Int → sg_M → Prop} (hw : sp_wZ z) (H : sp_RM s z) (h : ∀ s', sp_FC s s' → sp_RM s' z → Q (sp_at (zE z) i) s') : fX12_evenAt s i Q := by
  obtain ⟨H0, F0⟩ := sp_go0 H
  intro s1 h1
  rw [← h1] at H0 F0
  have h := h s1 F0 H0
  obtain ⟨-, -, -, -, -, -, -, -, -, ⟨g1, g2⟩, -⟩ := H0
  rw [sp_ly_o (by omega) (by omega)] at g1
  have := hw.2.2.2.2.2.2.1
  rw [g1]
  refine ⟨fun q => by rw [sp_at_out (Or.inl q)] at h; exact h, fun q => ⟨fun q2 => by rw [sp_at_out (Or.inr q2)] at h; exact h, fun q2 => ⟨by omega, ?_⟩⟩⟩
  have e := sp_at_in g2 (show 0 ≤ i by omega) (by omega)
  rw [sp_ly_o (by omega) (by omega)] at e
  rw [e]; exact h
def aCount (z : sp_Z) (w : Int) : Int := if w = 0 then nB (zN z) 4 0 else if w = 1 then nB (zN z) 4 1 else if w = 2 then nB (zN z) 4 2 else if w = 3 then (nHa (zN z)).length else if w = 4 then (nKa (zN z)).length else if w = 5 then (zT z).length else -1
theorem sp_rg0 {La : sg_L} {s : sg_M} {r c w : Int} {kd : Nat} (h : sp_rg La s r c w kd) (hc : 0 ≤ c) : 0 ≤ r := by
  rcases h.2 with h | h <;> omega
theorem k1Count {w : Int} {Q : Int → Prop} (H : sp_RC La s z) (h : Q (aCount z w)) : fX11_count s w Q := by
  rw [sp_RC_eq] at H
  obtain ⟨hT, -, ⟨⟨hB1, hB⟩, ⟨hH1, hH, -⟩, -, hK, -⟩, -⟩ := H
  have b0 := sp_rg0 hB1 (by omega)
  have b1 := sp_rg0 hH1 (by omega)
  unfold aCount at h
  unfold fX11_count
  refine ⟨fun hh => ?_, fun hh => ⟨b0, ?_⟩, fun hh => ⟨b0, ?_⟩, fun hh => ⟨b0, ?_⟩, fun hh => ⟨b1, ?_⟩, fun hh => ?_, fun hh => ?_⟩
  · rw [if_neg (by omega), if_neg (by omega), if_neg (by omega), if_neg (by omega), if_neg (by omega), if_neg (by omega)] at h; exact h
  · rw [if_pos hh] at h; rw [hB.1]; exact h
  · rw [if_neg (by omega), if_pos hh] at h; rw [hB.2.1]; exact h
  · rw [if_neg (by omega), if_neg (by omega), if_pos hh] at h; rw [hB.2.2.1]; exact h
  · rw [if_neg (by omega), if_neg (by omega), if_neg (by omega), if_pos hh] at h; rw [hH]; exact h
  · rw [if_neg (by omega), if_neg (by omega), if_neg (by omega), if_neg (by omega), if_pos hh] at h; rw [hK.2.2.1]; exact h
  · rw [if_neg (by omega), if_neg (by omega), if_neg (by omega), if_neg (by omega), if_neg (by omega), if_pos hh] at h; rw [hT.1]; exact h
theorem k2Count {w : Int} {Q : Int → sg_M → Prop} (H : sp_RM s z) (h : ∀ s', sp_FC s s' → sp_RM s' z → Q (aCount z w) s') : fX12_count s w Q := by
  obtain ⟨H0, h20, F0, -⟩ := sp_go H
  intro s1 h1
  rw [← h1] at H0 F0 h20
  refine tX12_lay ?_
  have h := h _ F0 (sp_RM_of H0 h20)
  obtain ⟨hT, -, ⟨hB, hH, -, hK, -⟩, -⟩ := H0
  unfold aCount at h
  unfold fX12_pieces fX12_bends
  refine ⟨fun hh => ?_, fun hh => ?_, fun hh => ?_, fun hh => ?_, fun hh => ?_, fun hh => ?_, fun hh => ?_⟩
  · rw [if_neg (by omega), if_neg (by omega), if_neg (by omega), if_neg (by omega), if_neg (by omega), if_neg (by omega)] at h; exact h
  · rw [if_pos hh] at h; rw [hB.1]; exact h
  · rw [if_neg (by omega), if_pos hh] at h; rw [← hB.2.1] at h; exact h
  · rw [if_neg (by omega), if_neg (by omega), if_pos hh] at h; rw [← hB.2.2.1] at h; exact h
  · rw [if_neg (by omega), if_neg (by omega), if_neg (by omega), if_pos hh] at h; rw [hH.1]; exact h
  · rw [if_neg (by omega), if_neg (by omega), if_neg (by omega), if_neg (by omega), if_pos hh] at h; rw [hK.1]; exact h
  · rw [if_neg (by omega), if_neg (by omega), if_neg (by omega), if_neg (by omega), if_neg (by omega), if_pos hh] at h; rw [hT.1]; exact h
end SGK2
