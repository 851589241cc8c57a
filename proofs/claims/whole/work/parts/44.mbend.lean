/-! LEVEL 2, the reference bends a blade: layBend. -/
noncomputable section SGMb2
/-- the blade that stands in f from slot b on, with thickness T -/
def sp_mB (f : Int → Int) (b : Int) (B : sg_M) (T : Int → Int) : Prop := f b = B 4 0 ∧ f (b + 1) = B 4 1 ∧ f (b + 2) = B 4 2 ∧ ∀ i, 0 ≤ i → i < B 4 0 → f (b + 10 + 4 * i) = B 0 i ∧ T i = B 1 i ∧ f (b + 10 + 4 * i + 2) = B 2 i ∧ f (b + 10 + 4 * i + 3) = B 3 i
def sp_mT (f : Int → Int) (b s e i : Int) : Int := if s = 0 then f (b + 10 + 4 * i + 1) else s + Int.tdiv ((e - s) * i) (f b - 1)
theorem sp_bhL {W : Int → Int} {n i : Int} {s : sg_M} {Q : Int → Prop} (hn : n ≤ 60) (hsn : s 64 27 = n) (hW : ∀ i, 0 ≤ i → i < n → s 73 i = W i) (h0 : 0 ≤ i) (h1 : i < n) : ∀ (r : Nat), i + r < n → Q (sp_bh W n (W i) r) →
    fX12_isShutIn_L27 s i (fun x => ((x = (s 64 27) → Q 1) ∧ (¬ (x = (s 64 27)) → (0 ≤ x ∧ x < 60) ∧ (0 ≤ i ∧ i < 60) ∧ (((s 73 x) ≤ (s 73 i) → Q 0) ∧ (¬ ((s 73 x) ≤ (s 73 i)) → Q 1))))) (r + 1) (n - r)
  | 0, _, h => by
    rw [fX12_isShutIn_L27]
    simp only [sp_bh] at h
    exact ⟨fun _ => ⟨fun _ => h, fun hh => absurd (show n - ((0 : Nat) : Int) = s 64 27 by omega) hh⟩, fun hh => absurd (show s 64 27 ≤ n - ((0 : Nat) : Int) by omega) hh⟩
  | r + 1, hr, h => by
    have hw := hW (n - ((r : Int) + 1)) (by omega) (by omega)
    have hi := hW i h0 h1
    have ih := sp_bhL (Q := Q) hn hsn hW h0 h1 r (by omega)
    rw [fX12_isShutIn_L27]
    have e : n - ((r + 1 : Nat) : Int) = n - ((r : Int) + 1) := by omega
    have e2 : n - ((r : Int) + 1) + 1 = n - r := by omega
    rw [e]
    simp only [hw, hi, e2]
    rw [sp_bh] at h
    refine ⟨fun hh => absurd hh (by omega), fun _ => ⟨by omega, by omega, fun g => ?_, fun g => ⟨by omega, ?_⟩⟩⟩
    · rw [if_pos g] at h
      refine ⟨fun g2 => absurd g2 (by omega), fun _ => ⟨by omega, by omega, fun g3 => ?_, fun g3 => ?_⟩⟩
      · rw [if_pos g3] at h; exact h
      · rw [if_neg g3] at h; exact h
    · rw [if_neg (by omega)] at h
      have := ih h
      rw [hi] at this
      exact this
theorem tX12_isShutIn {W : Int → Int} {n i : Int} {s : sg_M} {Q : Int → Prop} (hn : n ≤ 60) (hsn : s 64 27 = n) (hW : ∀ i, 0 ≤ i → i < n → s 73 i = W i) (h0 : 0 ≤ i) (h1 : i < n) (h : Q (sp_pl W n i)) : fX12_isShutIn s i Q := by
  have hi := hW i h0 h1
  have hj : Q (sp_bh W n (W i) (n - 1 - i).toNat) → fX12_isShutIn_j23 s i Q := by
    intro hq
    refine ⟨by omega, (n - 1 - i).toNat + 1, ?_⟩
    have := sp_bhL (Q := Q) hn hsn hW h0 h1 (n - 1 - i).toNat (by omega) hq
    rw [show n - ((n - 1 - i).toNat : Int) = i + 1 by omega] at this
    exact this
  unfold fX12_isShutIn
  unfold sp_pl at h
  refine ⟨fun g => ?_, fun g => ⟨by omega, by omega, fun g2 => ?_, fun g2 => ?_⟩⟩
  · rw [if_neg (by omega)] at h; exact hj h
  · rw [hi, hW (i - 1) (by omega) (by omega)] at g2
    rw [if_neg (fun hh => hh.2 g2)] at h; exact hj h
  · rw [hi, hW (i - 1) (by omega) (by omega)] at g2
    rw [if_pos ⟨by omega, g2⟩] at h; exact h
/-- what bending changes -/
def sp_F1 (s s' : sg_M) : Prop := ∀ c i, (c = 64 → i < 27 ∨ 33 < i ∨ i = 32 ∨ i = 33) → (c < 72 ∨ 76 < c) → s' c i = s c i
theorem sp_lbStep {B : sg_M} {b a1 a2 a3 a4 i th : Int} {K : sg_M → Prop} {n : Nat} {s : sg_M} (hok : sp_ok B) (hb0 : 0 ≤ b) (hb1 : b ≤ 1040) (ha : -9999 ≤ a1 ∧ a1 ≤ 9999) (hb : -9999 ≤ a2 ∧ a2 ≤ 9999) (h0 : 0 ≤ i) (h1 : i < B 4 0)
    (hn : s 64 27 = B 4 0) (g0 : s 66 (b + 10 + 4 * i) = B 0 i) (g2 : s 66 (b + 10 + 4 * i + 2) = B 2 i) (g3 : s 66 (b + 10 + 4 * i + 3) = B 3 i) (ht : th = B 1 i) (hbe : s 66 (b + 2) = B 4 2)
    (h : fX12_layBend_L37 b a1 a2 a3 a4 K n (sg_up (sg_up (sg_up (sg_up (sg_up s 72 i (sp_cu B a1 a2 i)) 73 i (sp_wl B a1 a2 i)) 74 i (sp_sr B a1 a2 i)) 64 31 (sg_max (s 64 31) (sp_sr B a1 a2 i))) 64 30 (if s 64 30 ≠ -1 then s 64 30 else if sp_sr B a1 a2 i ≤ B 4 2 then -1 else i)) (i + 1)) :
    fX12_layBend_j88 b a1 a2 s i (fX12_layBend_L37 b a1 a2 a3 a4 K n) th := by
  have hn3 := hok.1
  have hn60 := hok.2.1
  have k1 := sp_tu0 hok ha hb h0 h1
  have k2 := sp_tu_rg hok ha hb h0 h1
  have k3 := sp_sf_rg hok h0 h1
  have k4 := sp_cu0 hok ha hb h0 h1
  have k5 := sp_wl_rg B a1 a2 i
  have k6 := sp_sr_rg (a := a1) (b := a2) hok h0 h1
  have k7 := sp_abs_rg B a1 a2 i
  have k8 := sp_cu_rg B a1 a2 i
  have k9 := hok.2.2.2.2.2.2 i h0 h1
  unfold fX12_layBend_j88
  rw [hn]
  refine ⟨by omega, by omega, by omega, fun v22 hv => ?_⟩
  have hv' : v22 = sp_tu B a1 a2 i := hv
  refine ⟨by omega, ?_⟩
  have esf : (((s 66 (b + 10 + 4 * i + 0) - s 66 (b + 10 + 4 * i + 2)) * th) * th) * th = sp_sf B i := by
    rw [show b + 10 + 4 * i + 0 = b + 10 + 4 * i by omega, g0, g2, ht]; rfl
  unfold fX12_stiffness
  rw [esf]
  refine ⟨by omega, by omega, by omega, by omega, by omega, by omega, fun v32 h32 => ?_⟩
  rw [hv', g3] at h32
  have hcu : sp_cu B a1 a2 i = sg_max (-2000) (sg_min 2000 v32) := by rw [h32]; rfl
  refine ⟨by omega, ?_⟩
  -- from the curve on
  have hj : fX12_layBend_j179 b s i th (fX12_layBend_L37 b a1 a2 a3 a4 K n) (sp_cu B a1 a2 i) := by
    refine ⟨by omega, fun s37 h37 => ⟨by omega, ?_, fun s42 h42 => ?_⟩⟩
    · have : sp_cu B a1 a2 i * sp_cu B a1 a2 i = sp_wl B a1 a2 i := rfl
      rw [this]; omega
    · have hj2 : fX12_layBend_j219 b i th s42 (fX12_layBend_L37 b a1 a2 a3 a4 K n) (sg_abs (sp_cu B a1 a2 i)) := by
        have esr : sg_abs (sp_cu B a1 a2 i) * th = sp_sr B a1 a2 i := by rw [ht]; rfl
        unfold fX12_layBend_j219
        rw [esr]
        refine ⟨by omega, by omega, fun s47 h47 => ⟨by omega, ?_⟩⟩
        have r1 : s47 74 i = sp_sr B a1 a2 i := by rw [h47, sg_upS]
        have r2 : ∀ c j, c ≠ 72 → c ≠ 73 → c ≠ 74 → s47 c j = s c j := fun c j c1 c2 c3 => by
          rw [h47, sg_upN _ (by omega), h42, sg_upN _ (by omega), h37, sg_upN _ (by omega)]
        rw [r1, r2 64 31 (by omega) (by omega) (by omega)]
        have hj3 : ∀ mx, mx = sg_max (s 64 31) (sp_sr B a1 a2 i) → fX12_layBend_j248 b i (fX12_layBend_L37 b a1 a2 a3 a4 K n) (sg_up s47 64 31 mx) := by
          intro mx hmx
          have e47 : sg_up s47 64 31 mx = sg_up (sg_up (sg_up (sg_up s 72 i (sp_cu B a1 a2 i)) 73 i (sp_wl B a1 a2 i)) 74 i (sp_sr B a1 a2 i)) 64 31 (sg_max (s 64 31) (sp_sr B a1 a2 i)) := by
            rw [hmx, h47, h42, h37]; rfl
          have q1 : sg_up s47 64 31 mx 64 30 = s 64 30 := by rw [sg_upN _ (by omega)]; exact r2 64 30 (by omega) (by omega) (by omega)
          have q2 : sg_up s47 64 31 mx 66 (b + 2) = B 4 2 := by rw [sg_upN _ (by omega), r2 66 _ (by omega) (by omega) (by omega)]; exact hbe
          have q3 : sg_up s47 64 31 mx 74 i = sp_sr B a1 a2 i := by rw [sg_upN _ (by omega)]; exact r1
          unfold fX12_layBend_j248 fX12_layBend_j280
          rw [q1, q2, q3]
          refine ⟨fun hne => ⟨by omega, ?_⟩, fun heq => ⟨by omega, by omega, fun hle => ⟨by omega, ?_⟩, fun hgt => fun s63 h63 => ⟨by omega, ?_⟩⟩⟩
          · rw [if_pos hne] at h
            rw [← e47, ← q1, sg_upI] at h; exact h
          · rw [if_neg (by omega), if_pos hle] at h
            rw [← e47] at h
            have : (-1 : Int) = sg_up s47 64 31 mx 64 30 := by rw [q1, heq]
            rw [this, sg_upI] at h; exact h
          · rw [if_neg (by omega), if_neg hgt] at h
            rw [h63, e47]; exact h
        refine ⟨fun hle => ?_, fun hgt => ⟨by omega, fun s69 h69 => ?_⟩⟩
        · have e : s47 = sg_up s47 64 31 (s 64 31) := by rw [← r2 64 31 (by omega) (by omega) (by omega), sg_upI]
          rw [e]
          exact hj3 _ (by unfold sg_max; split <;> omega)
        · rw [h69]
          exact hj3 _ (by unfold sg_max; split <;> omega)
      refine ⟨fun hc => ?_, fun hc => ⟨by omega, ?_⟩⟩
      · have : sg_abs (sp_cu B a1 a2 i) = sp_cu B a1 a2 i := by unfold sg_abs; rw [if_pos hc]
        rw [this] at hj2; exact hj2
      · have : sg_abs (sp_cu B a1 a2 i) = -sp_cu B a1 a2 i := by unfold sg_abs; rw [if_neg hc]; omega
        rw [this] at hj2; exact hj2
  unfold fX12_layBend_j166
  refine ⟨fun hle => ⟨fun h2 => ?_, fun h2 => ?_⟩, fun hgt => ⟨fun h2 => ?_, fun h2 => absurd (show (-2000 : Int) ≤ 2000 by omega) h2⟩⟩
  · have : sp_cu B a1 a2 i = v32 := by rw [hcu]; unfold sg_max sg_min; split <;> split <;> omega
    rw [this] at hj; exact hj
  · have : sp_cu B a1 a2 i = -2000 := by rw [hcu]; unfold sg_max sg_min; split <;> split <;> omega
    rw [this] at hj; exact hj
  · have : sp_cu B a1 a2 i = 2000 := by rw [hcu]; unfold sg_max sg_min; split <;> split <;> omega
    rw [this] at hj; exact hj
end SGMb2
noncomputable section SGMb3
def sp_P (B : sg_M) (a b : Int) : List Int := sp_ps (sp_W B a b) (B 4 0) (B 4 0).toNat
/-- what bending leaves in the reference's fields -/
def sp_mbt (B : sg_M) (a b : Int) (t : sg_M) : Prop := t 64 27 = B 4 0 ∧ t 64 28 = B 4 1 ∧ t 64 29 = (sp_P B a b).length ∧ t 64 30 = sp_bk B a b (B 4 0).toNat ∧ t 64 31 = sp_ms B a b (B 4 0).toNat ∧
  (∀ j, 0 ≤ j → j < B 4 0 → t 72 j = sp_cu B a b j ∧ t 73 j = sp_W B a b j ∧ t 74 j = sp_sr B a b j) ∧ sg_ar (t 75) 0 (sp_P B a b)
def sp_lbI (B : sg_M) (a b : Int) (s t : sg_M) (m : Nat) : Prop := sp_F1 s t ∧ t 64 27 = B 4 0 ∧ t 64 28 = B 4 1 ∧ t 64 30 = sp_bk B a b m ∧ t 64 31 = sp_ms B a b m ∧ ∀ j : Int, 0 ≤ j → j < m → t 72 j = sp_cu B a b j ∧ t 73 j = sp_wl B a b j ∧ t 74 j = sp_sr B a b j
theorem sp_lbL {B : sg_M} {b a1 a2 a3 a4 : Int} {K : sg_M → Prop} {s : sg_M} (hok : sp_ok B) (hb0 : 0 ≤ b) (hb1 : b ≤ 1040) (ha : -9999 ≤ a1 ∧ a1 ≤ 9999) (hb : -9999 ≤ a2 ∧ a2 ≤ 9999)
    (hth : a3 = 0 ∨ (1 ≤ a3 ∧ a3 ≤ 20 ∧ 1 ≤ a4 ∧ a4 ≤ 20)) (hB : sp_mB (s 66) b B (sp_mT (s 66) b a3 a4)) (h : ∀ t, sp_lbI B a1 a2 s t (B 4 0).toNat → K t) :
    ∀ (r m : Nat) (t : sg_M), (m : Int) + r = B 4 0 → sp_lbI B a1 a2 s t m → fX12_layBend_L37 b a1 a2 a3 a4 K (r + 1) t m
  | 0, m, t, hm, hI => by
    rw [fX12_layBend_L37]
    have e : (B 4 0).toNat = m := by omega
    rw [e] at h
    exact ⟨fun _ => h t hI, fun hh => absurd (show t 64 27 ≤ m by have := hI.2.1; omega) hh⟩
  | r + 1, m, t, hm, hI => by
    obtain ⟨hF, h27, h28, h30, h31, hj⟩ := hI
    obtain ⟨B0, B1, B2, B3⟩ := hB
    obtain ⟨c0, c1, c2, c3⟩ := B3 m (by omega) (by omega)
    have hn3 := hok.1
    have hn60 := hok.2.1
    have f66 : ∀ j, t 66 j = s 66 j := fun j => hF 66 j (by omega) (by omega)
    rw [fX12_layBend_L37]
    have hj88 : ∀ th, th = B 1 m → fX12_layBend_j88 b a1 a2 t m (fX12_layBend_L37 b a1 a2 a3 a4 K (r + 1)) th := by
      intro th hth'
      refine sp_lbStep hok hb0 hb1 ha hb (by omega) (by omega) h27 (by rw [f66]; exact c0) (by rw [f66]; exact c2) (by rw [f66]; exact c3) hth' (by rw [f66]; exact B2) ?_
      have hstep := sp_lbL hok hb0 hb1 ha hb hth ⟨B0, B1, B2, B3⟩ h r (m + 1) (sg_up (sg_up (sg_up (sg_up (sg_up t 72 m (sp_cu B a1 a2 m)) 73 m (sp_wl B a1 a2 m)) 74 m (sp_sr B a1 a2 m)) 64 31 (sg_max (t 64 31) (sp_sr B a1 a2 m))) 64 30 (if t 64 30 ≠ -1 then t 64 30 else if sp_sr B a1 a2 m ≤ B 4 2 then -1 else m)) (by omega) ?_
      · exact hstep
      · refine ⟨fun c j q1 q2 => ?_, ?_, ?_, ?_, ?_, fun j q1 q2 => ?_⟩
        · rw [sg_upN _ (by omega), sg_upN _ (by omega), sg_upN _ (by omega), sg_upN _ (by omega), sg_upN _ (by omega)]; exact hF c j q1 q2
        · rw [sg_upN _ (by omega), sg_upN _ (by omega), sg_upN _ (by omega), sg_upN _ (by omega), sg_upN _ (by omega)]; exact h27
        · rw [sg_upN _ (by omega), sg_upN _ (by omega), sg_upN _ (by omega), sg_upN _ (by omega), sg_upN _ (by omega)]; exact h28
        · rw [sg_upS, sp_bk, h30]
        · rw [sg_upN _ (by omega), sg_upS, sp_ms, h31]
        · by_cases hjm : j = m
          · subst hjm; simp [sg_up]
          · have := hj j q1 (by omega)
            simp [sg_up, hjm]; exact this
    refine ⟨fun hh => absurd hh (by omega), fun _ => ⟨fun g => ?_, fun g => ?_⟩⟩
    · have hth' : 1 ≤ a3 ∧ a3 ≤ 20 ∧ 1 ≤ a4 ∧ a4 ≤ 20 := by
        rcases hth with hth | hth
        · exact absurd hth g
        · exact hth
      have k := sp_mu (a := a4 - a3) (x := m) (c := 19) (by omega) (by omega) (by omega)
      have eT : a3 + Int.tdiv ((a4 - a3) * m) (t 64 27 - 1) = B 1 m := by
        rw [← c1, h27, ← B0]; unfold sp_mT; rw [if_neg g]
      have k9 := hok.2.2.2.2.2.2 m (by omega) (by omega)
      rw [eT]
      exact ⟨by omega, by omega, by omega, by omega, hj88 _ rfl⟩
    · have eT : t 66 (b + 10 + 4 * m + 1) = B 1 m := by
        rw [f66, ← c1]; unfold sp_mT; rw [if_pos g]
      rw [eT]
      exact ⟨by omega, hj88 _ rfl⟩
theorem sp_lbL2 {B : sg_M} {a1 a2 : Int} {Q : sg_M → Prop} {s : sg_M} (hok : sp_ok B) (h : ∀ t, sp_F1 s t → sp_mbt B a1 a2 t → Q t) :
    ∀ (r m : Nat) (t : sg_M), (m : Int) + r = B 4 0 → sp_lbI B a1 a2 s t (B 4 0).toNat → t 64 29 = (sp_ps (sp_W B a1 a2) (B 4 0) m).length → sg_ar (t 75) 0 (sp_ps (sp_W B a1 a2) (B 4 0) m) → fX12_layBend_L294 Q (r + 1) t m
  | 0, m, t, hm, hI, h29, h75 => by
    rw [fX12_layBend_L294]
    obtain ⟨hF, h27, h28, h30, h31, hj⟩ := hI
    have e : (B 4 0).toNat = m := by omega
    refine ⟨fun _ => h t hF ⟨h27, h28, ?_, h30, h31, fun j q1 q2 => ?_, ?_⟩, fun hh => absurd (show t 64 27 ≤ m by omega) hh⟩
    · unfold sp_P; rw [e]; exact h29
    · obtain ⟨d1, d2, d3⟩ := hj j q1 (by omega)
      exact ⟨d1, by rw [sp_W_in q1 q2]; exact d2, d3⟩
    · unfold sp_P; rw [e]; exact h75
  | r + 1, m, t, hm, hI, h29, h75 => by
    have hI' := hI
    obtain ⟨hF, h27, h28, h30, h31, hj⟩ := hI
    have hn60 := hok.2.1
    have hlen := sp_ps_len (sp_W B a1 a2) (B 4 0) m
    have hB := sp_pl_B (sp_W B a1 a2) (B 4 0) m
    rw [fX12_layBend_L294]
    refine ⟨fun hh => absurd hh (by omega), fun _ => ?_⟩
    refine tX12_isShutIn (W := sp_W B a1 a2) (n := B 4 0) hn60 h27 (fun j q1 q2 => ?_) (by omega) (by omega) ?_
    · rw [sp_W_in q1 q2]; exact (hj j q1 (by omega)).2.1
    · refine ⟨by omega, fun s93 h93 => ⟨by omega, fun g => ?_, fun g => ?_⟩⟩
      · have g' : sp_pl (sp_W B a1 a2) (B 4 0) m ≠ 0 := by rw [h93, sg_upS] at g; exact g
        have e29 : s93 64 29 = (sp_ps (sp_W B a1 a2) (B 4 0) m).length := by rw [h93, sg_upN _ (by omega)]; exact h29
        have ep : sp_ps (sp_W B a1 a2) (B 4 0) (m + 1) = sp_ps (sp_W B a1 a2) (B 4 0) m ++ [(m : Int)] := by rw [sp_ps, if_neg g']
        refine ⟨by omega, fun s103 h103 => ?_⟩
        have f29 : s103 64 29 = (sp_ps (sp_W B a1 a2) (B 4 0) m).length := by rw [h103, sg_upN _ (by omega)]; exact e29
        refine ⟨by omega, fun s107 h107 => ⟨by omega, ?_⟩⟩
        have rd : ∀ c j, c ≠ 75 → c ≠ 76 → (c = 64 → j ≠ 29) → s107 c j = t c j := fun c j q1 q2 q3 => by
          rw [h107, sg_upN _ (by omega), h103, sg_upN _ (by omega), h93, sg_upN _ (by omega)]
        refine sp_lbL2 hok h r (m + 1) s107 (by omega) ⟨fun c j q1 q2 => ?_, ?_, ?_, ?_, ?_, fun j q1 q2 => ?_⟩ ?_ ?_
        · rw [rd c j (by omega) (by omega) (by omega)]; exact hF c j q1 q2
        · rw [rd _ _ (by omega) (by omega) (by omega)]; exact h27
        · rw [rd _ _ (by omega) (by omega) (by omega)]; exact h28
        · rw [rd _ _ (by omega) (by omega) (by omega)]; exact h30
        · rw [rd _ _ (by omega) (by omega) (by omega)]; exact h31
        · rw [rd _ _ (by omega) (by omega) (by omega), rd _ _ (by omega) (by omega) (by omega), rd _ _ (by omega) (by omega) (by omega)]; exact hj j q1 q2
        · rw [h107, sg_upS, f29, ep]; simp
        · rw [ep]
          refine sg_ar_snoc _ 0 (sg_ar_congr _ 0 (fun j q1 q2 => ?_) h75) ?_
          · rw [h107, sg_upN _ (by omega), h103, sg_upN _ (by omega), h93, sg_upN _ (by omega)]
          · rw [h107, sg_upN _ (by omega), h103, e29, Int.zero_add, sg_upS]
      · have g' : sp_pl (sp_W B a1 a2) (B 4 0) m = 0 := by rw [h93, sg_upS] at g; exact g
        have ep : sp_ps (sp_W B a1 a2) (B 4 0) (m + 1) = sp_ps (sp_W B a1 a2) (B 4 0) m := by rw [sp_ps, if_pos g']
        have rd : ∀ c j, c ≠ 76 → s93 c j = t c j := fun c j q1 => by rw [h93, sg_upN _ (by omega)]
        refine ⟨by omega, ?_⟩
        refine sp_lbL2 hok h r (m + 1) s93 (by omega) ⟨fun c j q1 q2 => ?_, ?_, ?_, ?_, ?_, fun j q1 q2 => ?_⟩ ?_ ?_
        · rw [rd c j (by omega)]; exact hF c j q1 q2
        · rw [rd _ _ (by omega)]; exact h27
        · rw [rd _ _ (by omega)]; exact h28
        · rw [rd _ _ (by omega)]; exact h30
        · rw [rd _ _ (by omega)]; exact h31
        · rw [rd _ _ (by omega), rd _ _ (by omega), rd _ _ (by omega)]; exact hj j q1 q2
        · rw [rd _ _ (by omega), ep]; exact h29
        · rw [ep]; exact sg_ar_congr _ 0 (fun j q1 q2 => (rd _ _ (by omega)).symm) h75
theorem tX12_layBend {B : sg_M} {b a1 a2 a3 a4 : Int} {Q : sg_M → Prop} {s : sg_M} (hok : sp_ok B) (hb0 : 0 ≤ b) (hb1 : b ≤ 1040) (ha : -9999 ≤ a1 ∧ a1 ≤ 9999) (hb : -9999 ≤ a2 ∧ a2 ≤ 9999)
    (hth : a3 = 0 ∨ (1 ≤ a3 ∧ a3 ≤ 20 ∧ 1 ≤ a4 ∧ a4 ≤ 20)) (hB : sp_mB (s 66) b B (sp_mT (s 66) b a3 a4)) (h : ∀ t, sp_F1 s t → sp_mbt B a1 a2 t → Q t) : fX12_layBend s b a1 a2 a3 a4 Q := by
  have hn := hok.1
  unfold fX12_layBend
  refine ⟨by omega, fun s4 h4 => ⟨by omega, fun s9 h9 => fun s11 h11 => fun s13 h13 => ⟨(B 4 0).toNat + 1, ?_⟩⟩⟩
  have f66 : ∀ j, s4 66 j = s 66 j := fun j => by rw [h4, sg_upN _ (by omega)]
  have step : ∀ t, sp_lbI B a1 a2 s t (B 4 0).toNat → ∀ s85 : sg_M, s85 = sg_up t 64 29 0 → ∃ n : Nat, fX12_layBend_L294 Q n s85 0 := by
    intro t hI s85 h85
    obtain ⟨hF, h27, h28, h30, h31, hj⟩ := hI
    refine ⟨(B 4 0).toNat + 1, ?_⟩
    refine sp_lbL2 (s := s) hok h (B 4 0).toNat 0 s85 (by omega) ⟨fun c j q1 q2 => ?_, ?_, ?_, ?_, ?_, fun j q1 q2 => ?_⟩ ?_ trivial
    · rw [h85, sg_upN _ (by omega)]; exact hF c j q1 q2
    · rw [h85, sg_upN _ (by omega)]; exact h27
    · rw [h85, sg_upN _ (by omega)]; exact h28
    · rw [h85, sg_upN _ (by omega)]; exact h30
    · rw [h85, sg_upN _ (by omega)]; exact h31
    · rw [h85, sg_upN _ (by omega), sg_upN _ (by omega), sg_upN _ (by omega)]; exact hj j q1 q2
    · rw [h85, sg_upS]; rfl
  refine sp_lbL (s := s) hok hb0 hb1 ha hb hth hB step (B 4 0).toNat 0 s13 (by omega) ⟨fun c j q1 q2 => ?_, ?_, ?_, ?_, ?_, fun j q1 q2 => by omega⟩
  · rw [h13, sg_upN _ (by omega), h11, sg_upN _ (by omega), h9, sg_upN _ (by omega), h4, sg_upN _ (by omega)]
  · rw [h13, sg_upN _ (by omega), h11, sg_upN _ (by omega), h9, sg_upN _ (by omega), h4, sg_upS, Int.add_zero]; exact hB.1
  · rw [h13, sg_upN _ (by omega), h11, sg_upN _ (by omega), h9, sg_upS, f66]; exact hB.2.1
  · rw [h13, sg_upN _ (by omega), h11, sg_upS]; rfl
  · rw [h13, sg_upS]; rfl
end SGMb3
