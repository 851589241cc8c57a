/-! LEVEL 2, the voice of a bent blade, and the reference's voiceBy. -/
noncomputable section SGVo
/-- tone, piece, rings, twice of the voice over the places l, from v and the most rings so far -/
def sp_vs (W : Int → Int) (n u : Int) (P : List Int) : List Int → Int → Int × Int × Int × Int → Int × Int × Int × Int
  | [], _, v => v
  | p :: l, most, v => if sg_tn W n p u = 0 then sp_vs W n u P l most v else if sg_sh W n p (sg_tn W n p u) = 0 then sp_vs W n u P l most v
    else if sg_ri W n p (sg_tn W n p u) ≤ most then sp_vs W n u P l most v
    else sp_vs W n u P l (sg_ri W n p (sg_tn W n p u)) (sg_tn W n p u, p, sg_ri W n p (sg_tn W n p u), sg_tw p (sg_rf1 W p (sg_tn W n p u)) (sg_rl1 W n p (sg_tn W n p u)) P)
/-- the voice of blade B with bend (a, b) -/
def sp_vo (B : sg_M) (a b : Int) : Int × Int × Int × Int := if sp_bk B a b (B 4 0).toNat ≠ -1 then (0, 99, 0, 0) else sp_vs (sp_W B a b) (B 4 0) (B 4 1) (sp_P B a b) (sp_P B a b) (-1) (0, 99, 0, 0)
def sp_vx (s : sg_M) (v : Int × Int × Int × Int) : Prop := s 64 39 = v.1 ∧ s 64 40 = v.2.1 ∧ s 64 41 = v.2.2.1 ∧ s 64 42 = v.2.2.2
/-- what the voice changes besides what bending changes -/
def sp_F2 (s s' : sg_M) : Prop := ∀ c i, (c = 64 → i < 32 ∨ 42 < i ∨ (33 < i ∧ i < 39)) → s' c i = s c i
theorem sp_voL {B : sg_M} {a b : Int} {Q : Int → sg_M → Prop} {s : sg_M} (hok : sp_ok B) (hs : sp_mbt B a b s) (v0 : Int × Int × Int × Int)
    (h : ∀ v, v = (if sp_bk B a b (B 4 0).toNat ≠ -1 then v0 else sp_vs (sp_W B a b) (B 4 0) (B 4 1) (sp_P B a b) (sp_P B a b) (-1) v0) → ∀ t, sp_F2 s t → sp_vx t v → Q v.1 t) :
    ∀ (l : List Int) (t : sg_M) (most k : Int) (v : Int × Int × Int × Int), 0 ≤ k → k + l.length = (sp_P B a b).length → sg_ar (s 75) k l → (∀ p, p ∈ l → 0 ≤ p ∧ p < B 4 0) → sp_F2 s t → sp_vx t v → -1 ≤ most → most ≤ 2147483647 →
      (if sp_bk B a b (B 4 0).toNat ≠ -1 then v0 else sp_vs (sp_W B a b) (B 4 0) (B 4 1) (sp_P B a b) (sp_P B a b) (-1) v0) = (if sp_bk B a b (B 4 0).toNat ≠ -1 then v else sp_vs (sp_W B a b) (B 4 0) (B 4 1) (sp_P B a b) l most v) →
      fX12_voiceBy_L38 Q (l.length + 1) t most k
  | [], t, most, k, v, hk, hkl, har, hm, hF, hv, h1, h2, he => by
    obtain ⟨m27, m28, m29, m30, m31, mj, m75⟩ := hs
    have e29 : t 64 29 = s 64 29 := hF 64 29 (by omega)
    simp only [List.length_nil] at hkl
    rw [List.length_nil, fX12_voiceBy_L38]
    refine ⟨fun _ => ?_, fun hh => absurd (show t 64 29 ≤ k by omega) hh⟩
    rw [hv.1]
    refine h v ?_ t hF hv
    rw [he]; split <;> rfl
  | p :: l, t, most, k, v, hk, hkl, har, hm, hF, hv, h1, h2, he => by
    have hs' := hs
    obtain ⟨m27, m28, m29, m30, m31, mj, m75⟩ := hs
    have e27 : t 64 27 = B 4 0 := by rw [hF 64 27 (by omega)]; exact m27
    have e28 : t 64 28 = B 4 1 := by rw [hF 64 28 (by omega)]; exact m28
    have e29 : t 64 29 = s 64 29 := hF 64 29 (by omega)
    have e30 : t 64 30 = sp_bk B a b (B 4 0).toNat := by rw [hF 64 30 (by omega)]; exact m30
    have e75 : t 75 k = p := by rw [hF 75 k (by omega)]; exact har.1
    have hlen := sp_ps_len (sp_W B a b) (B 4 0) (B 4 0).toNat
    have hlen' : ((sp_P B a b).length : Int) ≤ 60 := by have := hok.2.1; unfold sp_P; omega
    have hp := hm p List.mem_cons_self
    simp only [List.length_cons] at hkl
    have ih := fun t' most' v' g1 g2 g3 g4 g5 => sp_voL (Q := Q) hok hs' v0 h l t' most' (k + 1) v' (by omega) (by omega) har.2 (fun x hx => hm x (List.mem_cons_of_mem _ hx)) g1 g2 g3 g4 g5
    rw [List.length_cons, fX12_voiceBy_L38]
    simp only [e75, fX12_voiceBy_j137]
    refine ⟨fun hh => absurd hh (by omega), fun _ => ⟨by omega, ?_⟩⟩
    have hW : ∀ i, 0 ≤ i → i < B 4 0 → t 73 i = sp_W B a b i := fun i q1 q2 => by rw [hF 73 i (by omega)]; exact (mj i q1 q2).2.1
    have hFr : ∀ x y, sp_F2 s (sg_rn t x y) := fun x y c i q => by rw [sg_rn_rd _ _ _ _ _ (by omega)]; exact hF c i q
    have hvr : ∀ x y, sp_vx (sg_rn t x y) v := fun x y => by
      unfold sp_vx
      rw [sg_rn_rd _ _ _ _ _ (by omega), sg_rn_rd _ _ _ _ _ (by omega), sg_rn_rd _ _ _ _ _ (by omega), sg_rn_rd _ _ _ _ _ (by omega)]; exact hv
    have heu : (2 * 0 + 1) * B 4 1 = B 4 1 := by omega
    refine tX12_toneOf (W := sp_W B a b) (n := B 4 0) (u := B 4 1) hok.2.1 e27 hW (fun i _ _ => sp_W_rg B a b i) hp.1 hp.2 (by omega) (by omega) e28 hok.2.2.1 hok.2.2.2.1 ?_ ?_
    · intro hor x y
      rw [heu, e30] at hor
      refine ⟨fun _ => ⟨by omega, ?_⟩, fun hh => absurd rfl hh⟩
      refine ih _ most v (hFr x y) (hvr x y) h1 h2 ?_
      rw [he]
      rcases hor with hor | hor
      · rw [if_pos hor, if_pos hor]
      · split
        · rfl
        · rw [sp_vs, if_pos hor]
    · intro hbk htn
      rw [heu] at htn
      rw [e30] at hbk
      rw [heu]
      have htr := sg_tn_rg (sp_W B a b) (B 4 0) p (B 4 1)
      refine ⟨fun hh => absurd hh (by omega), fun _ => ?_⟩
      generalize hf : sg_tn (sp_W B a b) (B 4 0) p (B 4 1) = f at *
      have hrr := sg_rn_rg (sp_W B a b) hp.1 hp.2 f
      have he' : sp_vs (sp_W B a b) (B 4 0) (B 4 1) (sp_P B a b) (p :: l) most v = (if sg_sh (sp_W B a b) (B 4 0) p f = 0 then sp_vs (sp_W B a b) (B 4 0) (B 4 1) (sp_P B a b) l most v
          else if sg_ri (sp_W B a b) (B 4 0) p f ≤ most then sp_vs (sp_W B a b) (B 4 0) (B 4 1) (sp_P B a b) l most v
          else sp_vs (sp_W B a b) (B 4 0) (B 4 1) (sp_P B a b) l (sg_ri (sp_W B a b) (B 4 0) p f) (f, p, sg_ri (sp_W B a b) (B 4 0) p f, sg_tw p (sg_rf1 (sp_W B a b) p f) (sg_rl1 (sp_W B a b) (B 4 0) p f) (sp_P B a b))) := by
        rw [sp_vs, hf, if_neg htn]
      rw [he'] at he
      have hnb : ¬ (sp_bk B a b (B 4 0).toNat ≠ -1) := by omega
      refine tX12_isShut (n := B 4 0) (a := sg_rf1 (sp_W B a b) p f) (b := sg_rl1 (sp_W B a b) (B 4 0) p f) (by omega) hok.2.1 (by rw [sg_rn_rd _ _ _ _ _ (by omega)]; exact e27) (sg_rn_a _ _ _) (sg_rn_b _ _ _) ?_
      change (sg_sh (sp_W B a b) (B 4 0) p f ≠ 0 → _) ∧ (sg_sh (sp_W B a b) (B 4 0) p f = 0 → _)
      refine ⟨fun hsh => ?_, fun hsh => ⟨by omega, ?_⟩⟩
      · rw [if_neg hsh] at he
        refine tX12_rings (W := sp_W B a b) (n := B 4 0) (p := p) htr.1 htr.2 hok.2.1 (by rw [sg_rn_rd _ _ _ _ _ (by omega)]; exact e27) (fun i q1 q2 => by rw [sg_rn_rd _ _ _ _ _ (by omega)]; exact hW i q1 q2)
          (fun i _ _ => sp_W_rg B a b i) hp.1 hp.2 (sg_rn_a _ _ _) (sg_rn_b _ _ _) ?_
        generalize hg : sg_ri (sp_W B a b) (B 4 0) p f = g at *
        refine ⟨fun hlt => ?_, fun hge => ⟨by omega, ?_⟩⟩
        · rw [if_neg (show ¬ g ≤ most by omega)] at he
          intro s27 h27
          refine ⟨by omega, fun s32 h32 => fun s34 h34 => ⟨by omega, ?_⟩⟩
          have r0 : ∀ c i, (c = 64 → i ≠ 39 ∧ i ≠ 40 ∧ i ≠ 41) → s34 c i = sg_rn t (sg_rf1 (sp_W B a b) p f) (sg_rl1 (sp_W B a b) (B 4 0) p f) c i := fun c i q => by
            rw [h34, sg_upN _ (by omega), h32, sg_upN _ (by omega), h27, sg_upN _ (by omega)]
          have e75' : s34 75 k = p := by rw [r0 75 k (by omega), sg_rn_rd _ _ _ _ _ (by omega)]; exact e75
          have x40 : s27 75 k = p := by rw [h27, sg_upN _ (by omega), sg_rn_rd _ _ _ _ _ (by omega)]; exact e75
          rw [e75']
          unfold fX12_isTwice
          refine ⟨(sp_P B a b).length + 1, ?_⟩
          refine sg_twL (a := sg_rf1 (sp_W B a b) p f) (b := sg_rl1 (sp_W B a b) (B 4 0) p f) ?_ ?_ ?_ (sp_P B a b) 0 (by omega) ?_ ?_ ?_
          · rw [r0 64 32 (by omega)]; exact sg_rn_a _ _ _
          · rw [r0 64 33 (by omega)]; exact sg_rn_b _ _ _
          · rw [r0 64 29 (by omega), sg_rn_rd _ _ _ _ _ (by omega), e29, m29]; omega
          · rw [r0 64 29 (by omega), sg_rn_rd _ _ _ _ _ (by omega), e29, m29]; omega
          · refine sg_ar_congr _ 0 (fun i q1 q2 => ?_) m75
            rw [r0 75 i (by omega), sg_rn_rd _ _ _ _ _ (by omega), hF 75 i (by omega)]
          · intro s41 h41
            have hri : g ≤ 2147483647 := by
              rw [← hg]; unfold sg_ri sg_ri0; rw [if_neg hsh]
              have z1 := sg_S_hi (g := fun i => sg_rt (sp_W B a b i - f * f)) (c := 2047) (fun i => sg_rt_le _) 0 (sg_rf1 (sp_W B a b) p f).toNat
              have hn := hok.2.1
              unfold sg_min; split <;> omega
            refine ⟨by omega, ih s41 g (f, p, g, sg_tw p (sg_rf1 (sp_W B a b) p f) (sg_rl1 (sp_W B a b) (B 4 0) p f) (sp_P B a b)) (fun c i q => ?_) ⟨?_, ?_, ?_, ?_⟩ (by omega) (by omega) (by rw [he, if_neg hnb, if_neg hnb])⟩
            · rw [h41, sg_upN _ (by omega), r0 c i (by omega), sg_rn_rd _ _ _ _ _ (by omega)]; exact hF c i q
            · rw [h41, sg_upN _ (by omega), h34, sg_upN _ (by omega), h32, sg_upN _ (by omega), h27, sg_upS]
            · rw [h41, sg_upN _ (by omega), h34, sg_upN _ (by omega), h32, sg_upS, x40]
            · rw [h41, sg_upN _ (by omega), h34, sg_upS]
            · rw [h41, sg_upS]
        · rw [if_pos (show g ≤ most by omega)] at he
          exact ih _ most v (hFr _ _) (hvr _ _) h1 h2 he
      · rw [if_pos hsh] at he
        exact ih _ most v (hFr _ _) (hvr _ _) h1 h2 he
/-- the frame of voiceBy -/
def sp_F3 (s s' : sg_M) : Prop := ∀ c i, (c = 64 → i < 27 ∨ 42 < i ∨ (33 < i ∧ i < 39)) → (c < 72 ∨ 76 < c) → s' c i = s c i
theorem tX12_voiceBy {B : sg_M} {b a1 a2 a3 a4 : Int} {Q : Int → sg_M → Prop} {s : sg_M} (hok : sp_ok B) (hb0 : 0 ≤ b) (hb1 : b ≤ 1040) (ha : -9999 ≤ a1 ∧ a1 ≤ 9999) (hb : -9999 ≤ a2 ∧ a2 ≤ 9999)
    (hth : a3 = 0 ∨ (1 ≤ a3 ∧ a3 ≤ 20 ∧ 1 ≤ a4 ∧ a4 ≤ 20)) (hB : sp_mB (s 66) b B (sp_mT (s 66) b a3 a4)) (h : ∀ t, sp_F3 s t → sp_mbt B a1 a2 t → sp_vx t (sp_vo B a1 a2) → Q (sp_vo B a1 a2).1 t) : fX12_voiceBy s b a1 a2 a3 a4 Q := by
  unfold fX12_voiceBy
  refine tX12_layBend hok hb0 hb1 ha hb hth hB (fun t hF hbt => ?_)
  intro s2 h2 s4 h4 s6 h6 s8 h8
  have r0 : ∀ c i, (c = 64 → i < 39 ∨ 42 < i) → s8 c i = t c i := fun c i q => by
    rw [h8, sg_upN _ (by omega), h6, sg_upN _ (by omega), h4, sg_upN _ (by omega), h2, sg_upN _ (by omega)]
  have tr : ∀ t', sp_F2 s8 t' → sp_mbt B a1 a2 t' := by
    intro t' hF'
    obtain ⟨m27, m28, m29, m30, m31, mj, m75⟩ := hbt
    have e : ∀ c i, (c = 64 → i < 32) → t' c i = t c i := fun c i q => by rw [hF' c i (by omega), r0 c i (by omega)]
    refine ⟨by rw [e 64 27 (by omega)]; exact m27, by rw [e 64 28 (by omega)]; exact m28, by rw [e 64 29 (by omega)]; exact m29, by rw [e 64 30 (by omega)]; exact m30, by rw [e 64 31 (by omega)]; exact m31, fun j q1 q2 => ?_, ?_⟩
    · rw [e 72 j (by omega), e 73 j (by omega), e 74 j (by omega)]; exact mj j q1 q2
    · exact sg_ar_congr _ 0 (fun i _ _ => (e 75 i (by omega)).symm) m75
  have m8 : sp_mbt B a1 a2 s8 := tr s8 (fun c i q => rfl)
  refine ⟨(sp_P B a1 a2).length + 1, ?_⟩
  refine sp_voL (a := a1) (b := a2) hok m8 (0, 99, 0, 0) ?_ (sp_P B a1 a2) s8 (-1) 0 (0, 99, 0, 0) (by omega) (by omega) m8.2.2.2.2.2.2 ?_ (fun c i q => rfl) ?_ (by omega) (by omega) rfl
  · intro v hv t' hF' hvx
    have ev : v = sp_vo B a1 a2 := hv
    rw [ev] at hvx ⊢
    refine h t' (fun c i q1 q2 => ?_) (tr t' hF') hvx
    rw [hF' c i (by omega), r0 c i (by omega)]
    exact hF c i (by omega) q2
  · intro p hp
    have := sp_ps_mem _ _ _ p hp
    have := hok.1
    omega
  · refine ⟨?_, ?_, ?_, ?_⟩
    · rw [h8, sg_upN _ (by omega), h6, sg_upN _ (by omega), h4, sg_upN _ (by omega), h2, sg_upS]
    · rw [h8, sg_upN _ (by omega), h6, sg_upN _ (by omega), h4, sg_upS]
    · rw [h8, sg_upN _ (by omega), h6, sg_upS]
    · rw [h8, sg_upS]
end SGVo
