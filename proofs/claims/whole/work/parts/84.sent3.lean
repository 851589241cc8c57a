/-! LEVEL 2: sentence(), the reference: one thing, and the rest. -/
noncomputable section SGSf
variable {T : List Int} {lim : Int} {r : sp_rp} {a b : sp_ac} {s : sg_M}
theorem g_mR_0 (n : Nat) (s : sg_M) (Q : Int → sg_M → Prop) : g_mR (n + 1) 0 s Q = fX12_readOr_b (g_mR n) s Q := by rw [g_mR, if_pos rfl]
theorem g_mR_1 (n : Nat) (s : sg_M) (Q : Int → sg_M → Prop) : g_mR (n + 1) 1 s Q = fX12_readAnd_b (g_mR n) s Q := by rw [g_mR, if_neg (by omega), if_pos rfl]
theorem g_mR_2 (n : Nat) (s : sg_M) (Q : Int → sg_M → Prop) : g_mR (n + 1) 2 s Q = fX12_readOne_b (g_mR n) s Q := by rw [g_mR, if_neg (by omega), if_neg (by omega), if_pos rfl]
theorem g_mR_3 (n : Nat) (s : sg_M) (Q : Int → sg_M → Prop) : g_mR (n + 1) 3 s Q = fX12_readNot_b (g_mR n) s Q := by rw [g_mR, if_neg (by omega), if_neg (by omega), if_neg (by omega), if_pos rfl]
theorem g_mR_4 (n : Nat) (s : sg_M) (Q : Int → sg_M → Prop) : g_mR (n + 1) 4 s Q = fX12_readBracket_b (g_mR n) s Q := by rw [g_mR, if_neg (by omega), if_neg (by omega), if_neg (by omega), if_neg (by omega)]
theorem sMP_al {w : Int} (hq : sp_tq T lim) {n : Nat} {F : sp_ac → sp_rp → sp_ac × sp_rp} (hF : sFP T F) (hR : sMP T lim w (fun s Q => g_mR n 2 s Q) F) : sMP T lim w (fun s Q => g_mR (n + 1) 1 s Q) (sAl T lim F) := by
  intro s a q Q H hn hi h
  show g_mR (n + 1) 1 s Q
  rw [g_mR_1]
  unfold sAl at h
  refine hR s a q _ H hn hi (fun t1 f1 h1 r1 => ?_)
  rcases hp : (F a (.inr q)).2 with f | q2
  · rw [hp, sLp_inl] at h
    rw [hp] at h1
    exact ⟨fun z => absurd rfl z, fun _ => h t1 f1 h1 (fun z => absurd rfl z)⟩
  · rw [hp] at h h1 r1
    have r1 := r1 (show (1 : Int) ≠ 0 by omega)
    obtain ⟨n2, hN⟩ := r1
    obtain ⟨n1, n3, n4, S, n5, n6⟩ := id hN
    have hr := sRes_I hi n5 n4
    have h0 := hi.1
    refine ⟨fun _ => ⟨20 + 1, ?_⟩, fun z => absurd (show (1 : Int) = 0 from z) (by omega)⟩
    exact sMP_lp (L := fX12_readAnd_L14 (g_mR n) Q) (k := 10) (code := 2) hq hF hR (kw := 11) (by omega) (cw := 20) rfl (Or.inl rfl) rfl (fun n' s' x' => by rw [fX12_readAnd_L14]; rfl) (s0 := s) (a := a) hi 20 (F a (.inr q)).1 q2 t1 _ n2 (by omega) h1 f1 hN h
theorem sMP_co {w : Int} (hq : sp_tq T lim) {n : Nat} {F : sp_ac → sp_rp → sp_ac × sp_rp} (hF : sFP T F) (hR : sMP T lim w (fun s Q => g_mR n 2 s Q) F) : sMP T lim w (fun s Q => g_mR (n + 1 + 1) 0 s Q) (sCo T lim F) := by
  have hA := sMP_al hq hF hR
  have hFA : sFP T (sAl T lim F) := sFP_al hF
  intro s a q Q H hn hi h
  show g_mR (n + 1 + 1) 0 s Q
  rw [g_mR_0]
  unfold sCo at h
  refine hA s a q _ H hn hi (fun t1 f1 h1 r1 => ?_)
  rcases hp : (sAl T lim F a (.inr q)).2 with f | q2
  · rw [hp, sLp_inl] at h
    rw [hp] at h1
    exact ⟨fun z => absurd rfl z, fun _ => h t1 f1 h1 (fun z => absurd rfl z)⟩
  · rw [hp] at h h1 r1
    have r1 := r1 (show (1 : Int) ≠ 0 by omega)
    obtain ⟨n2, hN⟩ := r1
    obtain ⟨n1, n3, n4, S, n5, n6⟩ := id hN
    have hr := sRes_I hi n5 n4
    have h0 := hi.1
    refine ⟨fun _ => ⟨20 + 1, ?_⟩, fun z => absurd (show (1 : Int) = 0 from z) (by omega)⟩
    exact sMP_lp (L := fX12_readOr_L14 (g_mR (n + 1)) Q) (k := 11) (code := 3) hq hFA hA (kw := 10) (by omega) (cw := 21) rfl (Or.inr rfl) rfl (fun n' s' x' => by rw [fX12_readOr_L14]; rfl) (s0 := s) (a := a) hi 20 (sAl T lim F a (.inr q)).1 q2 t1 _ n2 (by omega) h1 f1 hN h
theorem sLf_10 (h : pWd T lim 10 r ≠ 0) : sLf T lim r = 0 := by
  unfold sLf
  rw [if_pos h]
theorem sLf_11 (h : pWd T lim 11 r ≠ 0) : sLf T lim r = 1 := by
  unfold sLf
  rw [if_neg (fun z => z (pWd_ex (w' := 10) h (by decide +kernel))), if_pos h]
theorem sLf_12 (h : pWd T lim 12 r ≠ 0) : sLf T lim r = 2 := by
  unfold sLf
  rw [if_neg (fun z => z (pWd_ex (w' := 10) h (by decide +kernel))), if_neg (fun z => z (pWd_ex (w' := 11) h (by decide +kernel))), if_pos h]
theorem sLf_13 (h : pWd T lim 13 r ≠ 0) : sLf T lim r = 3 := by
  unfold sLf
  rw [if_neg (fun z => z (pWd_ex (w' := 10) h (by decide +kernel))), if_neg (fun z => z (pWd_ex (w' := 11) h (by decide +kernel))), if_neg (fun z => z (pWd_ex (w' := 12) h (by decide +kernel))), if_pos h]
theorem sLf_14 (h : pWd T lim 14 r ≠ 0) : sLf T lim r = 4 := by
  unfold sLf
  rw [if_neg (fun z => z (pWd_ex (w' := 10) h (by decide +kernel))), if_neg (fun z => z (pWd_ex (w' := 11) h (by decide +kernel))), if_neg (fun z => z (pWd_ex (w' := 12) h (by decide +kernel))), if_neg (fun z => z (pWd_ex (w' := 13) h (by decide +kernel))), if_pos h]
theorem sLf_15 (h : pWd T lim 15 r ≠ 0) : sLf T lim r = 5 := by
  unfold sLf
  rw [if_neg (fun z => z (pWd_ex (w' := 10) h (by decide +kernel))), if_neg (fun z => z (pWd_ex (w' := 11) h (by decide +kernel))), if_neg (fun z => z (pWd_ex (w' := 12) h (by decide +kernel))), if_neg (fun z => z (pWd_ex (w' := 13) h (by decide +kernel))), if_neg (fun z => z (pWd_ex (w' := 14) h (by decide +kernel))), if_pos h]
theorem sLf_16 (h : pWd T lim 16 r ≠ 0) : sLf T lim r = 6 := by
  unfold sLf
  rw [if_neg (fun z => z (pWd_ex (w' := 10) h (by decide +kernel))), if_neg (fun z => z (pWd_ex (w' := 11) h (by decide +kernel))), if_neg (fun z => z (pWd_ex (w' := 12) h (by decide +kernel))), if_neg (fun z => z (pWd_ex (w' := 13) h (by decide +kernel))), if_neg (fun z => z (pWd_ex (w' := 14) h (by decide +kernel))), if_neg (fun z => z (pWd_ex (w' := 15) h (by decide +kernel))), if_pos h]
theorem sLf_17 (h : pWd T lim 17 r ≠ 0) : sLf T lim r = 7 := by
  unfold sLf
  rw [if_neg (fun z => z (pWd_ex (w' := 10) h (by decide +kernel))), if_neg (fun z => z (pWd_ex (w' := 11) h (by decide +kernel))), if_neg (fun z => z (pWd_ex (w' := 12) h (by decide +kernel))), if_neg (fun z => z (pWd_ex (w' := 13) h (by decide +kernel))), if_neg (fun z => z (pWd_ex (w' := 14) h (by decide +kernel))), if_neg (fun z => z (pWd_ex (w' := 15) h (by decide +kernel))), if_neg (fun z => z (pWd_ex (w' := 16) h (by decide +kernel))), if_pos h]
theorem sLf_18 (h : pWd T lim 18 r ≠ 0) : sLf T lim r = 8 := by
  unfold sLf
  rw [if_neg (fun z => z (pWd_ex (w' := 10) h (by decide +kernel))), if_neg (fun z => z (pWd_ex (w' := 11) h (by decide +kernel))), if_neg (fun z => z (pWd_ex (w' := 12) h (by decide +kernel))), if_neg (fun z => z (pWd_ex (w' := 13) h (by decide +kernel))), if_neg (fun z => z (pWd_ex (w' := 14) h (by decide +kernel))), if_neg (fun z => z (pWd_ex (w' := 15) h (by decide +kernel))), if_neg (fun z => z (pWd_ex (w' := 16) h (by decide +kernel))), if_neg (fun z => z (pWd_ex (w' := 17) h (by decide +kernel))), if_pos h]
theorem sLf_no (h10 : pWd T lim 10 r = 0) (h11 : pWd T lim 11 r = 0) (h12 : pWd T lim 12 r = 0) (h13 : pWd T lim 13 r = 0) (h14 : pWd T lim 14 r = 0) (h15 : pWd T lim 15 r = 0) : ¬ (0 ≤ sLf T lim r ∧ sLf T lim r ≤ 5) := by
  unfold sLf
  rw [if_neg (fun z => z h10), if_neg (fun z => z h11), if_neg (fun z => z h12), if_neg (fun z => z h13), if_neg (fun z => z h14), if_neg (fun z => z h15)]
  repeat' split
  all_goals omega
theorem sPl_no (h16 : pWd T lim 16 r = 0) (h17 : pWd T lim 17 r = 0) (h18 : pWd T lim 18 r = 0) : sPl (sLf T lim r) = 0 := by
  unfold sLf
  repeat' split
  all_goals first | rfl | contradiction
theorem tX12_what {q : Int} {K : Int → Prop} (H : sp_tM T lim (.inr q) s) (hK : K (if 0 ≤ sLf T lim (.inr q) ∧ sLf T lim (.inr q) ≤ 5 then 16 + sLf T lim (.inr q) else 22)) : ∃ n, fX12_readOne_L60 s K n 16 := by
  refine ⟨7, ?_⟩
  rw [fX12_readOne_L60]
  refine ⟨fun z => absurd z (by omega), fun _ => tX12_isW (k := 16) (w := 10) rfl (by omega) H ⟨fun g => ?_, fun g10 => ⟨by omega, ?_⟩⟩⟩
  · rw [sLf_10 g, if_pos (by omega)] at hK
    exact hK
  rw [show (16 : Int) + 1 = 17 by omega, fX12_readOne_L60]
  refine ⟨fun z => absurd z (by omega), fun _ => tX12_isW (k := 17) (w := 11) rfl (by omega) H ⟨fun g => ?_, fun g11 => ⟨by omega, ?_⟩⟩⟩
  · rw [sLf_11 g, if_pos (by omega)] at hK
    exact hK
  rw [show (17 : Int) + 1 = 18 by omega, fX12_readOne_L60]
  refine ⟨fun z => absurd z (by omega), fun _ => tX12_isW (k := 18) (w := 12) rfl (by omega) H ⟨fun g => ?_, fun g12 => ⟨by omega, ?_⟩⟩⟩
  · rw [sLf_12 g, if_pos (by omega)] at hK
    exact hK
  rw [show (18 : Int) + 1 = 19 by omega, fX12_readOne_L60]
  refine ⟨fun z => absurd z (by omega), fun _ => tX12_isW (k := 19) (w := 13) rfl (by omega) H ⟨fun g => ?_, fun g13 => ⟨by omega, ?_⟩⟩⟩
  · rw [sLf_13 g, if_pos (by omega)] at hK
    exact hK
  rw [show (19 : Int) + 1 = 20 by omega, fX12_readOne_L60]
  refine ⟨fun z => absurd z (by omega), fun _ => tX12_isW (k := 20) (w := 14) rfl (by omega) H ⟨fun g => ?_, fun g14 => ⟨by omega, ?_⟩⟩⟩
  · rw [sLf_14 g, if_pos (by omega)] at hK
    exact hK
  rw [show (20 : Int) + 1 = 21 by omega, fX12_readOne_L60]
  refine ⟨fun z => absurd z (by omega), fun _ => tX12_isW (k := 21) (w := 15) rfl (by omega) H ⟨fun g => ?_, fun g15 => ⟨by omega, ?_⟩⟩⟩
  · rw [sLf_15 g, if_pos (by omega)] at hK
    exact hK
  rw [show (21 : Int) + 1 = 22 by omega, fX12_readOne_L60]
  refine ⟨fun _ => ?_, fun z => absurd (show (21 : Int) < 22 by omega) z⟩
  rw [if_neg (sLf_no g10 g11 g12 g13 g14 g15)] at hK
  exact hK
/-- what follows the first tests -/
def sBody (s0 : sg_M) (rc : Nat → sg_M → (Int → sg_M → Prop) → Prop) (u1 u3 y x : Int) (Q : Int → sg_M → Prop) : Prop := sg_R ((s0 64 59) + 1) ∧ ∀ s22 : sg_M, s22 = sg_up s0 64 59 ((s0 64 59) + 1) → sg_R ((s22 64 60) + 1) ∧ ∀ s26 : sg_M, s26 = sg_up s22 64 60 ((s22 64 60) + 1) → fX12_go s26 (fun s28 => ((u1 = 0 → ((u3 = 0 → ((y = 0 → fX12_readCompare s28 x (fun u32 s34 => sg_R ((s34 64 60) - 1) ∧ ∀ s37 : sg_M, s37 = sg_up s34 64 60 ((s34 64 60) - 1) → Q u32 s37)) ∧ (¬ (y = 0) → fX12_lays s28 y 0 0 0 (fun u39 s41 => ∀ s42 : sg_M, s42 = sg_up s41 64 61 u39 → sg_R ((s42 64 60) - 1) ∧ ∀ s46 : sg_M, s46 = sg_up s42 64 60 ((s42 64 60) - 1) → Q 1 s46)))) ∧ (¬ (u3 = 0) → rc 3 s28 (fun u48 s50 => sg_R ((s50 64 60) - 1) ∧ ∀ s53 : sg_M, s53 = sg_up s50 64 60 ((s50 64 60) - 1) → Q u48 s53)))) ∧ (¬ (u1 = 0) → rc 4 s28 (fun u55 s57 => sg_R ((s57 64 60) - 1) ∧ ∀ s60 : sg_M, s60 = sg_up s57 64 60 ((s57 64 60) - 1) → Q u55 s60))))
theorem tX12_one {q w dp : Int} {rc : Nat → sg_M → (Int → sg_M → Prop) → Prop} {Q : Int → sg_M → Prop} (hq : sp_tq T lim) (hd : dp ≠ 0 ↔ w = 8) (H : sp_tM T lim (.inr q) s) (hn : sp_nA s a w) (hi : sI a)
    (hbad : ∀ t, sp_tF s t → pOk (sR1 T lim a dp (.inr q)) = 0 → sp_tM T lim (sR1 T lim a dp (.inr q)) t → Q 0 t)
    (hgo : pOk (sR1 T lim a dp (.inr q)) ≠ 0 → sBody s rc (pSg T lim 40 (.inr q)) (pWd T lim 19 (.inr q)) (sPl (sLf T lim (.inr q))) (if 0 ≤ sLf T lim (.inr q) ∧ sLf T lim (.inr q) ≤ 5 then 16 + sLf T lim (.inr q) else 22) Q) : fX12_readOne_b rc s Q := by
  have main : ∀ y, y = sPl (sLf T lim (.inr q)) → fX12_readOne_j55 s rc (pSg T lim 40 (.inr q)) (pWd T lim 19 (.inr q)) Q y := by
    intro y hy
    rw [← hy] at hgo
    refine tX12_what H ?_
    generalize hx : (if 0 ≤ sLf T lim (.inr q) ∧ sLf T lim (.inr q) ≤ 5 then 16 + sLf T lim (.inr q) else 22) = x at hgo ⊢
    have J : ¬ (sLf T lim (.inr q) = -1 ∧ pWd T lim 19 (.inr q) = 0 ∧ pSg T lim 40 (.inr q) = 0) → fX12_readOne_j107 s rc (pSg T lim 40 (.inr q)) (pWd T lim 19 (.inr q)) y x Q := by
      intro hn1
      unfold sR1 at hbad hgo
      rw [if_neg hn1] at hbad hgo
      have b4 : (20 ≤ a.1 ∨ dp ≠ 0) → tK T lim q ≠ 1 → fX12_bad s 4 (fun u s => Q u s) := fun g hk => by
        rw [if_pos g] at hbad
        exact tX12_bad hq H (by omega) (fun z => absurd z hk) (fun t hF ht => hbad t hF rfl ht)
      have hk1 : tK T lim q ≠ 1 := by
        intro hk
        refine hn1 ⟨?_, ?_, ?_⟩
        · refine Decidable.byContradiction fun z => ?_
          obtain ⟨w', hw'⟩ := sLf_w z
          have := (pWd_1 hw').1
          omega
        · refine Decidable.byContradiction fun z => ?_
          have := (pWd_1 z).1
          omega
        · refine Decidable.byContradiction fun z => ?_
          have := (pSg_1 z).1
          omega
      have h20 := hi.2.1
      unfold fX12_readOne_j107
      refine ⟨fun g => b4 (Or.inl (by rw [hn.2.1] at g; omega)) hk1, fun g => ⟨fun g2 => ?_, fun g2 => b4 (Or.inr (hd.mpr (by rw [hn.2.2] at g2; exact g2))) hk1⟩⟩
      have g3 : ¬ (20 ≤ a.1 ∨ dp ≠ 0) := by
        intro z
        rcases z with z | z
        · exact g (by rw [hn.2.1]; omega)
        · exact g2 (by rw [hn.2.2]; exact hd.mp z)
      rw [if_neg g3] at hgo
      exact hgo (show (1 : Int) ≠ 0 by omega)
    refine ⟨fun g => J (fun z => g z.2.2), fun g => ⟨fun g2 => J (fun z => g2 z.2.1), fun g2 => ⟨fun g3 => J (fun z => ?_), fun g3 => ⟨fun g4 => J (fun z => ?_), fun g4 => ?_⟩⟩⟩⟩
    · rw [hy, z.1] at g3; exact g3 (by unfold sPl; rw [if_neg (by omega), if_neg (by omega), if_neg (by omega)])
    · rw [← hx, z.1, if_neg (by omega)] at g4; omega
    · have hl : sLf T lim (.inr q) = -1 := by
        have hr := sLf_rg (T := T) (lim := lim) (.inr q)
        refine Decidable.byContradiction fun z => ?_
        by_cases c5 : sLf T lim (.inr q) ≤ 5
        · rw [if_pos ⟨by omega, c5⟩] at hx; omega
        · rw [hy] at g3
          unfold sPl at g3
          by_cases c6 : sLf T lim (.inr q) = 6
          · rw [if_pos c6] at g3; omega
          · rw [if_neg c6] at g3
            by_cases c7 : sLf T lim (.inr q) = 7
            · rw [if_pos c7] at g3; omega
            · rw [if_neg c7, if_pos (by omega)] at g3; omega
      unfold sR1 at hbad
      rw [if_pos ⟨hl, g2, g⟩] at hbad
      exact tX12_bad hq H (by omega) (fun _ => rfl) (fun t hF ht => hbad t hF rfl ht)
  unfold fX12_readOne_b
  refine tX12_isSign H (tX12_isW (k := 12) (w := 19) rfl (by omega) H (tX12_isW (k := 13) (w := 16) rfl (by omega) H ⟨fun g16 => ?_, fun g16 => main 4 ?_⟩))
  · refine tX12_isW (k := 14) (w := 17) rfl (by omega) H ⟨fun g17 => ?_, fun g17 => main 5 ?_⟩
    · refine tX12_isW (k := 15) (w := 18) rfl (by omega) H ⟨fun g18 => main 0 ?_, fun g18 => main 6 ?_⟩
      · rw [sPl_no g16 g17 g18]
      · rw [sLf_18 g18]; rfl
    · rw [sLf_17 g17]; rfl
  · rw [sLf_16 g16]; rfl
end SGSf
