/-! LEVEL 2: piece, bend, tick, which may refuse: the class throws, the reference says so and answers 0. -/
noncomputable section SGTr
variable {La : sg_L} {s : sg_M} {z : sp_Z}
theorem tv_th (H : sp_RM s z) (v : Int) : sp_R0 (sg_up (sp_ly s) 64 0 v) z ∧ sg_up (sp_ly s) 64 0 v 64 20 ≠ 0 ∧ sp_FC s (sg_up (sp_ly s) 64 0 v) ∧ sg_up (sp_ly s) 64 0 v 64 0 = v := by
  refine ⟨sp_R0_same H (fun c i hr => sg_upN _ (by unfold sp_rdm at hr; omega)), ?_, fun c i hc => ?_, sg_upS _ _ _ _⟩
  · rw [sg_upN _ (by omega)]; exact sp_ly_20 s
  · rw [sg_upN _ (by omega)]; exact sp_ly_o (by omega) (by omega)
abbrev gPiece (z : sp_Z) (i w : Int) : Prop := 0 ≤ i ∧ i < nB (zN z) 4 0 ∧ 0 ≤ w ∧ w ≤ 4
def aPiece (z : sp_Z) (i w : Int) : Int := if w = 4 then sp_sf (nB (zN z)) i else nB (zN z) w i
theorem k1Piece {i w : Int} {T : Prop} {Q : Int → Prop} (hw : sp_wZ z) (H : sp_RC La s z) (h : gPiece z i w → Q (aPiece z i w)) (hT : ¬ gPiece z i w → T) : fX11_piece s i w T Q := by
  obtain ⟨b1, b2, b3, b4⟩ := sp_cb_of H hw
  have hn60 := b1.2.1
  unfold aPiece at h
  refine ⟨b3, tX1_has b2.1 b1.2.1 ?_⟩
  split
  · rename_i g
    refine ⟨fun q => absurd q (by omega), fun _ => ⟨fun q => hT (by omega), fun q1 => ⟨fun q2 => ⟨b3, ?_⟩, fun q => hT (by omega)⟩⟩⟩
    have h := h ⟨g.1, g.2, by omega, q2⟩
    refine tX1_has b2.1 b1.2.1 ?_
    rw [if_pos g]
    obtain ⟨c0, c1, c2, c3⟩ := b2.2.2.2 i g.1 g.2
    refine ⟨fun _ => ⟨fun q3 => ?_, fun q3 => ⟨by omega, ?_⟩, fun q3 => ⟨by omega, ?_⟩, fun q3 => ⟨by omega, ?_⟩, fun q3 => ⟨by omega, ?_⟩⟩, fun q => absurd q (by omega)⟩
    · rw [if_pos (by omega)] at h; exact tX1_stiffness b1 b2 g.1 g.2 h
    · rw [if_neg (by omega), q3] at h; rw [c0]; exact h
    · rw [if_neg (by omega), q3] at h; rw [c1]; exact h
    · rw [if_neg (by omega), q3] at h; rw [c2]; exact h
    · rw [if_neg (by omega), q3] at h; rw [c3]; exact h
  · rename_i g
    exact ⟨fun _ => hT (fun c => g ⟨c.1, c.2.1⟩), fun q => absurd rfl q⟩
theorem k2Piece {i w : Int} {Q : Int → sg_M → Prop} (hw : sp_wZ z) (H : sp_RM s z) (h : ∀ s', sp_FC s s' → sp_RM s' z → s' 64 0 = (if gPiece z i w then 0 else 1) → Q (if gPiece z i w then aPiece z i w else 0) s') : fX12_piece s i w Q := by
  have H0 : sp_R0 (sp_ly s) z := H
  have th := tv_th H
  have hok := hw.2.2.1.1
  have hn60 := hok.2.1
  have no : ¬ gPiece z i w → fX12_refuse (sp_ly s) Q := fun g s1 e => by
    subst e
    have h := h _ (th 1).2.2.1 (sp_RM_of (th 1).1 (th 1).2.1) (by rw [if_neg g]; exact (th 1).2.2.2)
    rw [if_neg g] at h; exact h
  have e0 : sp_ly s 66 0 = nB (zN z) 4 0 := H0.2.2.1.1.1
  refine tX12_lay ⟨fun q => no (by omega), fun q => ?_⟩
  unfold fX12_pieces
  rw [e0]
  refine ⟨fun q2 => no (by omega), fun q2 => tX12_isIn ?_⟩
  split
  · rename_i g
    refine ⟨fun _ s15 e15 => ?_, fun q => absurd q (by omega)⟩
    subst e15
    have gg : gPiece z i w := ⟨by omega, by omega, g.1, g.2⟩
    have h := h _ (th 0).2.2.1 (sp_RM_of (th 0).1 (th 0).2.1) (by rw [if_pos gg]; exact (th 0).2.2.2)
    rw [if_pos gg] at h; unfold aPiece at h
    obtain ⟨c0, c1, c2, c3⟩ := H0.2.2.1.1.2.2.2 i (by omega) (by omega)
    have e : ∀ j, sg_up (sp_ly s) 64 0 0 66 j = sp_ly s 66 j := fun j => sg_upN _ (by omega)
    have d0 : sp_ly s 66 (10 + 4 * i + 0) = nB (zN z) 0 i := by rw [← c0]; congr 1 <;> omega
    have d1 : sp_ly s 66 (10 + 4 * i + 1) = nB (zN z) 1 i := by rw [← c1]; show sp_ly s 66 _ = sp_ly s 66 _; congr 1 <;> omega
    have d2 : sp_ly s 66 (10 + 4 * i + 2) = nB (zN z) 2 i := by rw [← c2]; congr 1 <;> omega
    have d3 : sp_ly s 66 (10 + 4 * i + 3) = nB (zN z) 3 i := by rw [← c3]; congr 1 <;> omega
    refine ⟨fun q3 => ⟨by omega, ?_⟩, fun q3 => ⟨by omega, ?_⟩⟩
    · rw [if_pos (by omega)] at h
      have k3 := sp_sf_rg hok (show 0 ≤ i by omega) (show i < nB (zN z) 4 0 by omega)
      have f0 : sp_ly s 66 (0 + 10 + 4 * i + 0) = nB (zN z) 0 i := by rw [← d0]; congr 1 <;> omega
      have f2 : sp_ly s 66 (0 + 10 + 4 * i + 2) = nB (zN z) 2 i := by rw [← d2]; congr 1 <;> omega
      have esf : (((((nB (zN z) 0 i) - (nB (zN z) 2 i)) * (nB (zN z) 1 i)) * (nB (zN z) 1 i)) * (nB (zN z) 1 i)) = sp_sf (nB (zN z)) i := rfl
      unfold fX12_stiffness
      rw [e, e, e, d1, f0, f2, esf]
      exact ⟨by omega, by omega, by omega, h⟩
    · rw [if_neg (by omega)] at h
      have : sp_ly s 66 (10 + 4 * i + w) = nB (zN z) w i := by
        have r : w = 0 ∨ w = 1 ∨ w = 2 ∨ w = 3 := by omega
        rcases r with r | r | r | r <;> rw [r] <;> assumption
      rw [e, this]; exact h
  · rename_i g
    exact ⟨fun q => absurd rfl q, fun _ => no (fun c => g c.2.2)⟩
abbrev gBend (z : sp_Z) (a b i w : Int) : Prop := sp_b2 a b ∧ 0 ≤ i ∧ i < nB (zN z) 4 0 ∧ 0 ≤ w ∧ w ≤ 1
def aBend (z : sp_Z) (a b i w : Int) : Int := if w = 0 then sp_cu (nB (zN z)) a b i else sp_sr (nB (zN z)) a b i
theorem k1Bend {a b i w : Int} {T : Prop} {Q : Int → Prop} (hw : sp_wZ z) (H : sp_RC La s z) (h : gBend z a b i w → Q (aBend z a b i w)) (hT : ¬ gBend z a b i w → T) : fX11_bend s a b i w T Q := by
  obtain ⟨b1, b2, b3, b4⟩ := sp_cb_of H hw
  have hn60 := b1.2.1
  unfold aBend at h
  refine tX11_isBend ?_
  split
  · rename_i gb
    refine ⟨fun q => absurd q (by omega), fun _ => ⟨b3, tX1_has b2.1 b1.2.1 ?_⟩⟩
    split
    · rename_i g
      refine ⟨fun q => absurd q (by omega), fun _ => ⟨fun q => hT (by omega), fun q1 => ⟨fun q2 => ⟨fun q3 => ⟨b3, ?_⟩, fun q3 => ⟨b3, ?_⟩⟩, fun q => hT (by omega)⟩⟩⟩
      · have h := h ⟨gb, g.1, g.2, by omega, q2⟩
        rw [if_neg q3] at h
        refine tX1_has b2.1 b1.2.1 ?_
        rw [if_pos g]
        refine ⟨fun q => absurd q (by omega), fun _ => tX1_curve b1 b2 ⟨gb.1, gb.2.1⟩ ⟨gb.2.2.1, gb.2.2.2⟩ g.1 g.2 ?_⟩
        obtain ⟨c0, c1, c2, c3⟩ := b2.2.2.2 i g.1 g.2
        have k := sp_sr_rg (a := a) (b := b) b1 g.1 g.2
        have e : sg_abs (sp_cu (nB (zN z)) a b i) * s (s 4 0 + 2) i = sp_sr (nB (zN z)) a b i := by rw [c1]; rfl
        rw [e]
        exact ⟨by omega, by omega, h⟩
      · have h := h ⟨gb, g.1, g.2, by omega, q2⟩
        rw [if_pos q3] at h
        exact tX1_curve b1 b2 ⟨gb.1, gb.2.1⟩ ⟨gb.2.2.1, gb.2.2.2⟩ g.1 g.2 h
    · rename_i g
      exact ⟨fun _ => hT (fun c => g ⟨c.2.1, c.2.2.1⟩), fun q => absurd rfl q⟩
  · rename_i gb
    exact ⟨fun _ => hT (fun c => gb c.1), fun q => absurd rfl q⟩
theorem k2Bend {a b i w : Int} {Q : Int → sg_M → Prop} (hw : sp_wZ z) (H : sp_RM s z) (h : ∀ s', sp_FC s s' → sp_RM s' z → s' 64 0 = (if gBend z a b i w then 0 else 1) → Q (if gBend z a b i w then aBend z a b i w else 0) s') : fX12_bend s a b i w Q := by
  have H0 : sp_R0 (sp_ly s) z := H
  have th := tv_th H
  have hok := hw.2.2.1.1
  have hn60 := hok.2.1
  have no : ¬ gBend z a b i w → fX12_refuse (sp_ly s) Q := fun g s1 e => by
    subst e
    have h := h _ (th 1).2.2.1 (sp_RM_of (th 1).1 (th 1).2.1) (by rw [if_neg g]; exact (th 1).2.2.2)
    rw [if_neg g] at h; exact h
  have e0 : sp_ly s 66 0 = nB (zN z) 4 0 := H0.2.2.1.1.1
  refine tX12_lay (tX12_isBend ?_)
  split
  · rename_i gb
    refine ⟨fun q => absurd q (by omega), fun _ => ⟨fun q => no (by omega), fun q => ?_⟩⟩
    unfold fX12_pieces
    rw [e0]
    refine ⟨fun q2 => no (by omega), fun q2 => tX12_isIn ?_⟩
    split
    · rename_i g
      refine ⟨fun _ s15 e15 => ?_, fun q => absurd q (by omega)⟩
      subst e15
      have gg : gBend z a b i w := ⟨gb, by omega, by omega, g.1, g.2⟩
      refine tX12_layBend hok (by omega) (by omega) ⟨gb.1, gb.2.1⟩ ⟨gb.2.2.1, gb.2.2.2⟩ (Or.inl rfl) (sp_mT_of (th 0).1.2.2.1.1) (fun t hF hbt => ?_)
      have h := h t (sp_FC_F1 (th 0).2.2.1 hF) (sp_RM_of (sp_R0_F1 (th 0).1 hF) (by rw [hF 64 20 (by omega) (by omega)]; exact (th 0).2.1)) (by rw [if_pos gg, hF 64 0 (by omega) (by omega)]; exact (th 0).2.2.2)
      rw [if_pos gg] at h; unfold aBend at h
      have hj := hbt.2.2.2.2.2.1 i (by omega) (by omega)
      refine ⟨fun q3 => ⟨by omega, ?_⟩, fun q3 => ⟨by omega, ?_⟩⟩
      · rw [if_neg q3] at h; rw [hj.2.2]; exact h
      · rw [if_pos q3] at h; rw [hj.1]; exact h
    · rename_i g
      exact ⟨fun q => absurd rfl q, fun _ => no (fun c => g c.2.2.2)⟩
  · rename_i gb
    exact ⟨fun _ => no (fun c => gb c.1), fun q => absurd rfl q⟩
abbrev gTick (z : sp_Z) (t w : Int) : Prop := 1 ≤ t ∧ t ≤ (nHa (zN z)).length ∧ 0 ≤ w ∧ w ≤ 4
def aTick (z : sp_Z) (t w : Int) : Int := if w = 0 then sp_at (nHa (zN z)) (t - 1) else if w = 1 then sp_at (nHb (zN z)) (t - 1) else if w = 2 then (sp_vo (nB (zN z)) (sp_at (nHa (zN z)) (t - 1)) (sp_at (nHb (zN z)) (t - 1))).1
  else if w = 3 then (sp_vo (nB (zN z)) (sp_at (nHa (zN z)) (t - 1)) (sp_at (nHb (zN z)) (t - 1))).2.1 else (sp_vo (nB (zN z)) (sp_at (nHa (zN z)) (t - 1)) (sp_at (nHb (zN z)) (t - 1))).2.2.1
theorem k1Tick {t w : Int} {T : Prop} {Q : Int → sg_M → Prop} (hst : sg_St La) (h89 : 89 ≤ La.1) (hw : sp_wZ z) (H : sp_RC La s z) (h : gTick z t w → ∀ s', sp_FM s s' → sp_RC La s' z → Q (aTick z t w) s') (hT : ¬ gTick z t w → T) : fX11_tick La s t w T Q := by
  have H' := H
  rw [sp_RC_eq] at H'
  obtain ⟨-, -, ⟨-, n2, -, -, -⟩, -⟩ := H'
  have hlen := hw.2.2.1.2.2.1
  have hle := hw.2.2.1.2.1
  have r1 := n2.1.2
  have r0 : 0 ≤ s 4 1 := by omega
  have e2 := n2.2.1
  unfold aTick at h
  refine ⟨fun q => hT (by omega), fun q => ⟨r0, ?_⟩⟩
  rw [e2]
  refine ⟨fun q2 => hT (by omega), fun q2 => ⟨fun q3 => hT (by omega), fun q3 => ⟨fun q4 => ⟨r0, ?_⟩, fun q4 => hT (by omega)⟩⟩⟩
  have h := h ⟨by omega, by omega, by omega, q4⟩
  refine tX3_knee e2 (by omega) ⟨by omega, by omega⟩ ⟨r0, tX3_tip e2 (by omega) ⟨by omega, by omega⟩ ?_⟩
  have ea : s (s 4 1 + 1) (t - 1) = sp_at (nHa (zN z)) (t - 1) := sp_at_in n2.2.2.1 (by omega) (by omega)
  have ed : s (s 4 1 + 2) (t - 1) = sp_at (nHb (zN z)) (t - 1) := sp_at_in n2.2.2.2 (by omega) (by omega)
  rw [ea, ed]
  have ha := sp_bd_at hw.2.2.1.2.2.2.1 (i := t - 1) (by omega) (by omega)
  have hb := sp_bd_at hw.2.2.1.2.2.2.2.1 (i := t - 1) (by omega) (by omega)
  refine ⟨fun g => sp_cv hst h89 hw H ha hb (fun u hF HR _ hv => ?_), fun g => ⟨fun g2 => ?_, fun g2 => ?_⟩⟩
  · have h := h u (fun c i q1 q2 => hF c i (by omega) (by omega)) HR
    rw [if_neg (by omega), if_neg (by omega)] at h
    refine ⟨fun g2 => ⟨fun g3 => ?_, fun g3 => ?_⟩, fun g2 => ?_⟩
    · rw [if_neg g2, if_neg g3] at h; rw [hv.2.2.1]; exact h
    · rw [if_neg g2, if_pos g3] at h; rw [hv.2.1]; exact h
    · rw [if_pos g2] at h; rw [hv.1]; exact h
  · have h := h s (fun _ _ _ _ => rfl) H
    rw [if_neg g2, if_pos (by omega)] at h; exact h
  · have h := h s (fun _ _ _ _ => rfl) H
    rw [if_pos g2] at h; exact h
theorem k2Tick {t w : Int} {Q : Int → sg_M → Prop} (hw : sp_wZ z) (H : sp_RM s z) (h : ∀ s', sp_FC s s' → sp_RM s' z → s' 64 0 = (if gTick z t w then 0 else 1) → Q (if gTick z t w then aTick z t w else 0) s') : fX12_tick s t w Q := by
  have H0 : sp_R0 (sp_ly s) z := H
  have th := tv_th H
  have hlen := hw.2.2.1.2.2.1
  have hle := hw.2.2.1.2.1
  have no : ¬ gTick z t w → fX12_refuse (sp_ly s) Q := fun g s1 e => by
    subst e
    have h := h _ (th 1).2.2.1 (sp_RM_of (th 1).1 (th 1).2.1) (by rw [if_neg g]; exact (th 1).2.2.2)
    rw [if_neg g] at h; exact h
  have e0 : sp_ly s 66 1300 = (nHa (zN z)).length := H0.2.2.1.2.1.1
  refine tX12_lay (tX12_isIn ?_)
  rw [e0]
  split
  · rename_i g1
    refine ⟨fun q => absurd q (by omega), fun _ => tX12_isIn ?_⟩
    split
    · rename_i g
      refine ⟨fun _ s15 e15 => ?_, fun q => absurd q (by omega)⟩
      subst e15
      have gg : gTick z t w := ⟨g1.1, g1.2, g.1, g.2⟩
      have e : ∀ j, sg_up (sp_ly s) 64 0 0 66 j = sp_ly s 66 j := fun j => sg_upN _ (by omega)
      have ea : sp_ly s 66 (1301 + t - 1) = sp_at (nHa (zN z)) (t - 1) := by
        have := sp_at_in (f := fun i => sp_ly s 66 (1301 + i)) H0.2.2.1.2.1.2.1 (i := t - 1) (by omega) (by omega)
        rw [← this]; show sp_ly s 66 _ = sp_ly s 66 _; congr 1; omega
      have ed : sp_ly s 66 (1501 + t - 1) = sp_at (nHb (zN z)) (t - 1) := by
        have := sp_at_in (f := fun i => sp_ly s 66 (1501 + i)) H0.2.2.1.2.1.2.2 (i := t - 1) (by omega) (by omega)
        rw [← this]; show sp_ly s 66 _ = sp_ly s 66 _; congr 1; omega
      have ha := sp_bd_at hw.2.2.1.2.2.2.1 (i := t - 1) (by omega) (by omega)
      have hb := sp_bd_at hw.2.2.1.2.2.2.2.1 (i := t - 1) (by omega) (by omega)
      rw [e, e, ea, ed]
      refine ⟨by omega, by omega, fun q3 => ?_, fun q3 => ?_⟩
      · refine sp_mv hw (th 0).1 ha hb (fun u hF HR _ hv => ?_)
        have h := h u (fun c i q => by rw [hF c i (by omega) (by omega)]; exact (th 0).2.2.1 c i q) (sp_RM_of HR (by rw [hF 64 20 (by omega) (by omega)]; exact (th 0).2.1)) (by rw [if_pos gg, hF 64 0 (by omega) (by omega)]; exact (th 0).2.2.2)
        rw [if_pos gg] at h; unfold aTick at h
        rw [if_neg (by omega), if_neg (by omega)] at h
        refine ⟨fun g2 => ⟨fun g3 => ?_, fun g3 => ?_⟩, fun g2 => ?_⟩
        · rw [if_neg g2, if_neg g3] at h; rw [hv.2.2.1]; exact h
        · rw [if_neg g2, if_pos g3] at h; rw [hv.2.1]; exact h
        · rw [if_pos g2] at h; rw [hv.1]; exact h
      · have h := h _ (th 0).2.2.1 (sp_RM_of (th 0).1 (th 0).2.1) (by rw [if_pos gg]; exact (th 0).2.2.2)
        rw [if_pos gg] at h; unfold aTick at h
        refine ⟨fun g2 => ?_, fun g2 => ?_⟩
        · rw [if_neg g2, if_pos (by omega)] at h; exact h
        · rw [if_pos g2] at h; exact h
    · rename_i g
      exact ⟨fun q => absurd rfl q, fun _ => no (fun c => g c.2.2)⟩
  · rename_i g
    exact ⟨fun _ => no (fun c => g ⟨c.1, c.2.1⟩), fun q => absurd rfl q⟩
end SGTr
