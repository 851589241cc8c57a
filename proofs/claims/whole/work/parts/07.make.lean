section SGM
def sg_zero (kd : Nat) (j : Int) : Int := if (sg_dcA kd j.toNat).1 = 4 ∨ (sg_dcA kd j.toNat).1 = 5 then -1 else 0
def sg_nw (σ : sg_M) (n kd : Nat) : sg_M := fun a b => if a = (n : Int) then sg_zero kd b else σ a b
/-- a cell more -/
def sg_pu (Λ : sg_L) (kd q : Nat) : sg_L := (Λ.1 + 1, va_up Λ.2.1 Λ.1 kd, va_up Λ.2.2 Λ.1 q)
/-- a cell's kind anew: it is made -/
def sg_se (Λ : sg_L) (o kd : Nat) : sg_L := (Λ.1, va_up Λ.2.1 o kd, Λ.2.2)
theorem sg_pu_E {Λ : sg_L} {kd q : Nat} : sg_E Λ (sg_pu Λ kd q) := ⟨Nat.le_succ _, fun k hk => by show va_up Λ.2.2 Λ.1 q k = _; unfold va_up; rw [if_neg (by omega)]⟩
theorem sg_se_E {Λ : sg_L} {o kd : Nat} : sg_E Λ (sg_se Λ o kd) := ⟨Nat.le_refl _, fun _ _ => rfl⟩
theorem sg_pu_kd {Λ : sg_L} {kd q k : Nat} (h : k < Λ.1) : (sg_pu Λ kd q).2.1 k = Λ.2.1 k := by show va_up Λ.2.1 Λ.1 kd k = _; unfold va_up; rw [if_neg (by omega)]
theorem sg_pu_new {Λ : sg_L} {kd q : Nat} : (sg_pu Λ kd q).2.1 Λ.1 = kd := by show va_up Λ.2.1 Λ.1 kd Λ.1 = _; unfold va_up; rw [if_pos rfl]
theorem sg_O_pu {Λ : sg_L} {o : Int} {k kd q : Nat} (h : sg_O Λ o k) : sg_O (sg_pu Λ kd q) o k := ⟨h.1, Nat.lt_succ_of_lt h.2.1, by rw [sg_pu_kd h.2.1]; exact h.2.2⟩
theorem sg_AN_pu {Λ : sg_L} {o n : Int} {kd q : Nat} (h : sg_AN Λ o n) : sg_AN (sg_pu Λ kd q) o n := ⟨h.1, Nat.lt_succ_of_lt h.2.1, by rw [sg_pu_kd h.2.1]; exact h.2.2⟩
theorem sg_O_new {Λ : sg_L} {kd q : Nat} : sg_O (sg_pu Λ kd q) (Λ.1 : Int) kd := ⟨by omega, Nat.lt_succ_self _, by rw [Int.toNat_natCast]; exact sg_pu_new⟩
theorem sg_O_se {Λ : sg_L} {o : Int} {k kd r : Nat} (h : sg_O Λ o k) (hne : o.toNat ≠ r) : sg_O (sg_se Λ r kd) o k := ⟨h.1, h.2.1, by show va_up Λ.2.1 r kd o.toNat = k; unfold va_up; rw [if_neg hne]; exact h.2.2⟩
theorem sg_O_sealed {Λ : sg_L} {o : Int} {k kd : Nat} (h : sg_O Λ o k) : sg_O (sg_se Λ o.toNat kd) o kd := ⟨h.1, h.2.1, by show va_up Λ.2.1 o.toNat kd o.toNat = kd; unfold va_up; rw [if_pos rfl]⟩
theorem sg_okS_pu {Λ : sg_L} {kd q k : Nat} {v : Int} {d : Nat × Nat × Nat} (h : sg_okS Λ k v d) : sg_okS (sg_pu Λ kd q) k v d := by
  obtain ⟨t, off, code⟩ := d
  unfold sg_okS at h ⊢
  dsimp only at h ⊢
  split at h
  · exact h
  · exact h
  · exact h
  · exact ⟨Nat.lt_succ_of_lt h.1, by rw [sg_pu_kd h.1]; exact h.2⟩
  · rcases h with h | ⟨h1, h2, h3⟩
    · exact Or.inl h
    · exact Or.inr ⟨h1, Nat.lt_succ_of_lt h2, by rw [sg_pu_kd h2]; exact h3⟩
  · rcases h with h | ⟨h1, h2⟩
    · exact Or.inl h
    · exact Or.inr ⟨h1, Nat.lt_succ_of_lt h2⟩
  · exact ⟨Nat.lt_succ_of_lt h.1, by rw [sg_pu_kd h.1]; exact h.2⟩
  · trivial
theorem sg_sv_E {Λ Λ' : sg_L} (hE : sg_E Λ Λ') {k : Nat} {v : Int} {d : Nat × Nat × Nat} (h : sg_okS Λ k v d) : sg_sv Λ'.2.2 k v d = sg_sv Λ.2.2 k v d := by
  obtain ⟨t, off, code⟩ := d
  unfold sg_okS at h
  unfold sg_sv
  dsimp only at h ⊢
  split at h
  · rfl
  · rfl
  · rfl
  · show Value.ref _ = Value.ref _
    rw [hE.2 _ h.1]
  · show sg_rf _ _ = sg_rf _ _
    rcases h with h | ⟨h1, h2, h3⟩
    · rw [sg_rf_null (by omega), sg_rf_null (by omega)]
    · rw [sg_rf_ref h1, sg_rf_ref h1, hE.2 _ h2]
  · show sg_rf _ _ = sg_rf _ _
    rcases h with h | ⟨h1, h2⟩
    · rw [sg_rf_null (by omega), sg_rf_null (by omega)]
    · rw [sg_rf_ref h1, sg_rf_ref h1, hE.2 _ h2]
  · show Value.ref _ = Value.ref _
    rw [hE.2 _ h.1]
  · next hn0 hn1 hn2 hn3 hn4 hn5 hn7 =>
    split <;> first | rfl | (exfalso; first | exact hn2 rfl | exact hn3 rfl | exact hn4 rfl | exact hn5 rfl | exact hn7 rfl)
theorem sg_ro_E {Λ Λ' : sg_L} (hE : sg_E Λ Λ') {v : Int} (h : v = -1 ∨ (0 ≤ v ∧ v.toNat < Λ.1)) : sg_ro Λ'.2.2 v = sg_ro Λ.2.2 v := by
  unfold sg_ro
  rcases h with h | ⟨h1, h2⟩
  · rw [if_pos (by omega), if_pos (by omega)]
  · rw [if_neg (by omega), if_neg (by omega), hE.2 _ h2]
theorem sg_cell_E {Λ Λ' : sg_L} (hE : sg_E Λ Λ') {cy : Nat → ClassId} {f : Int → Int} {k kd : Nat} (h : ∀ j : Nat, sg_okS Λ k (f j) (sg_dcA kd j)) : sg_cell cy Λ'.2.2 f k kd = sg_cell cy Λ.2.2 f k kd := by
  unfold sg_cell
  by_cases h0 : kd < 100
  · rw [if_pos h0, if_pos h0]
    congr 2
    unfold sg_fs
    apply List.ext_getElem?
    intro i
    rw [List.getElem?_mapIdx, List.getElem?_mapIdx]
    cases hd : (sg_dsc kd)[i]? with
    | none => rfl
    | some d =>
      have h1 := h i
      rw [sg_dcA_obj h0 hd] at h1
      exact congrArg some (sg_sv_E hE h1)
  · rw [if_neg h0, if_neg h0]
    by_cases h1 : kd < 20000
    · rw [if_pos h1, if_pos h1]
    · rw [if_neg h1, if_neg h1]
      by_cases h2 : kd < 30000
      · rw [if_pos h2, if_pos h2]
      · rw [if_neg h2, if_neg h2]
        by_cases h3 : kd < 40000
        · rw [if_pos h3, if_pos h3]
          congr 7
          funext j
          have h9 := h j
          rw [sg_dcA_refB (by omega) h3] at h9
          exact sg_ro_E hE (h9.imp id fun z => ⟨z.1, z.2.1⟩)
        · rw [if_neg h3, if_neg h3]
          by_cases h4 : kd < 50000
          · rw [if_pos h4, if_pos h4]
            congr 7
            funext j
            have h9 := h j
            rw [sg_dcA_refS (by omega) h4] at h9
            exact sg_ro_E hE (h9.imp id fun z => ⟨z.1, z.2.1⟩)
          · rw [if_neg h4, if_neg h4]
variable {p : Program} {l : Launch} {e : Env} {R : Room} {s : State} {m : MethodId} {args : Array Value} {below : List Frame} {meth : Method} {c : Code} {Q : State → Prop} {G : sg_G} {A : Nat → Prop} {Λ : sg_L} {σ σ1 : sg_M} {cells slots : Nat} {own : String} {cc : ByteArray} {nL : Nat} {ret : Option FieldType} {pc : Nat} {L L' : List (Nat × sg_V)} {S : List sg_V}
theorem sg_ws_new {kd q : Nat} (hok : ∀ k : Nat, k < Λ.1 → ∀ j : Nat, sg_okS Λ k (σ k j) (sg_dcA (Λ.2.1 k) j)) : sg_ws G (sg_pu Λ kd q) (sg_nw σ Λ.1 kd) = sg_ws G Λ σ ++ [(q, sg_cell G.2.1 (sg_pu Λ kd q).2.2 (sg_zero kd) Λ.1 kd)] := by
  unfold sg_ws
  show (List.range (Λ.1 + 1)).map _ = _
  rw [List.range_succ, List.map_append]
  congr 1
  · apply List.map_congr_left
    intro k hk
    have hk2 := List.mem_range.mp hk
    rw [sg_pu_kd hk2, (sg_pu_E (kd := kd) (q := q)).2 k hk2]
    have e1 : sg_nw σ Λ.1 kd (k : Int) = σ k := by
      funext b
      unfold sg_nw
      rw [if_neg (by omega)]
    rw [e1, sg_cell_E (sg_pu_E (kd := kd) (q := q)) (hok k hk2)]
  · show [_] = [_]
    have e1 : sg_nw σ Λ.1 kd ((Λ.1 : Nat) : Int) = sg_zero kd := by
      funext b
      unfold sg_nw
      rw [if_pos rfl]
    dsimp only
    rw [e1, sg_pu_new]
    congr 2
    show va_up Λ.2.2 Λ.1 q Λ.1 = q
    unfold va_up
    rw [if_pos rfl]
theorem sg_H_new {kd q : Nat} {H H1 : Heap} {E : va_E} (hH : sg_H G A Λ σ H) (hE : E = sg_cell G.2.1 (sg_pu Λ kd q).2.2 (sg_zero kd) Λ.1 kd) (hn : ∀ j : Nat, (sg_dcA kd j).1 ≠ 3 ∧ (sg_dcA kd j).1 ≠ 7) (hP : va_P G.1 vwCl (sg_ws G Λ σ ++ [(q, E)]) H1) (hD : va_D A (sg_ws G Λ σ ++ [(q, E)])) : sg_H G A (sg_pu Λ kd q) (sg_nw σ Λ.1 kd) H1 := by
  subst hE
  have e := sg_ws_new (G := G) (kd := kd) (q := q) hH.2.2
  refine ⟨by rw [e]; exact hP, by rw [e]; exact hD, ?_⟩
  intro k hk j
  have hk1 : k < Λ.1 + 1 := hk
  by_cases h : k < Λ.1
  · rw [sg_pu_kd h, show sg_nw σ Λ.1 kd (k : Int) (j : Int) = σ k j by unfold sg_nw; rw [if_neg (by omega)]]
    exact sg_okS_pu (hH.2.2 k h j)
  · have hk2 : k = Λ.1 := by omega
    subst hk2
    rw [sg_pu_new, show sg_nw σ Λ.1 kd ((Λ.1 : Nat) : Int) (j : Int) = sg_zero kd j by unfold sg_nw; rw [if_pos rfl]]
    have h2 := hn j
    unfold sg_zero
    rw [Int.toNat_natCast]
    generalize sg_dcA kd j = d at h2 ⊢
    obtain ⟨t, off, code⟩ := d
    unfold sg_okS
    dsimp only at h2 ⊢
    split
    · rw [if_neg (by omega)]; exact ⟨by omega, by omega⟩
    · rw [if_neg (by omega)]; exact ⟨by omega, by omega⟩
    · rw [if_neg (by omega)]; exact ⟨by omega, by omega⟩
    · exact absurd rfl h2.1
    · rw [if_pos (Or.inl rfl)]; exact Or.inl rfl
    · rw [if_pos (Or.inr rfl)]; exact Or.inl rfl
    · exact absurd rfl h2.2
    · trivial
theorem sg_vL {Λ Λ' : sg_L} (hE : sg_E Λ Λ') {L : List (Nat × sg_V)} (h : ∀ q ∈ L, sg_vok Λ q.2) : L.map (fun q => (q.1, sg_cv Λ' q.2)) = L.map (fun q => (q.1, sg_cv Λ q.2)) := List.map_congr_left (fun q hq => by rw [sg_cv_E hE (h q hq)])
theorem sg_vS {Λ Λ' : sg_L} (hE : sg_E Λ Λ') {S : List sg_V} (h : ∀ q ∈ S, sg_vok Λ q) : S.map (sg_cv Λ') = S.map (sg_cv Λ) := List.map_congr_left (fun q hq => sg_cv_E hE (h q hq))
theorem gw_new (F : sg_F p s m args meth c own cc nL ret G A) {kd idx N : Nat} {C : String} {T : u_T} {ty : Nat → FieldType} {fs : List Value} (hkd : kd < 100) (hcl : vwCl[kd % 20]? = some (C, T, N)) (hlay : ∀ w ∈ u_ws C T N, w ∈ sg_W0) (hty : ∀ k, k < N → parseFieldDescriptor (T k).2.2.1 = some (ty k)) (hclk : Cond.classLink own idx C ∈ sg_W0) (hinst : Cond.instantiable C N ∈ sg_W0) (hini : Cond.initialized C ∈ sg_W0)
    (hfs : ∀ (ad : Nat → Nat) (n : Nat), sg_fs ad (sg_zero kd) n (sg_dsc kd) = fs) (hfd : ∀ j, j < N → defaultValue (ty j) = vp_V fs j) (hn : ∀ d ∈ sg_dsc kd, d.1 ≠ 3 ∧ d.1 ≠ 7) (hcells : cells + 1 ≤ R.cells) (hslots : slots + N ≤ R.slots) (hvL : ∀ q ∈ L, sg_vok Λ q.2) (hvS : ∀ q ∈ S, sg_vok Λ q) (hd : decode cc pc = .ok (.new idx, 3))
    (k : ∀ q : Nat, sg_W p l e R s m args below meth c Q nL G A (sg_pu Λ kd q) (sg_nw σ Λ.1 kd) (cells + 1) (slots + N) (pc + 3) L (sg_r (Λ.1 : Int) :: S)) : sg_W p l e R s m args below meth c Q nL G A Λ σ cells slots pc L S := by
  intro H locs ls hH hS hl
  obtain ⟨hx, hb, -, -, hown, hts, -, hK, hA, hN, -⟩ := id F
  refine va_new hx hb hts hlay ty hty hown (hts _ hclk) (hts _ hinst) (hts _ hini) hK hH.1 hH.2.1 hS hA hcl hfd hcells hslots hd (fun q H1 hP hD hS1 => ?_)
  have hH1 : sg_H G A (sg_pu Λ kd q) (sg_nw σ Λ.1 kd) H1 := by
    refine sg_H_new (E := .inr (kd % 20, fs)) hH ?_ ?_ hP hD
    · rw [sg_cell_obj hkd, hfs]
    · intro j
      unfold sg_dcA
      rw [if_pos hkd, List.getD_eq_getElem?_getD]
      cases hj : (sg_dsc kd)[j]? with
      | none => exact ⟨by decide, by decide⟩
      | some d => exact hn d (List.mem_of_getElem? hj)
  have h1 := k q H1 locs ls hH1 hS1 (by rw [sg_vL sg_pu_E hvL]; exact hl)
  rw [List.map_cons, sg_vS sg_pu_E hvS, show sg_cv (sg_pu Λ kd q) (sg_r (Λ.1 : Int)) = .ref q by
    show sg_rf _ _ = _
    rw [sg_rf_ref (by omega), Int.toNat_natCast]
    show Value.ref (va_up Λ.2.2 Λ.1 q Λ.1) = _
    unfold va_up
    rw [if_pos rfl]] at h1
  exact h1
theorem sg_RA {U : State} {cA cB : ClassId} {ty : FieldType} (h1 : va_RA U cA ty) (h2 : va_RA U cB ty) : cA = cB := by
  cases ty with
  | object C =>
    obtain ⟨_, _, _, _, _, h4⟩ := h1
    obtain ⟨_, _, _, _, _, g4⟩ := h2
    rw [h4] at g4
    exact Option.some.inj g4
  | _ =>
    have h3 : some cA = some cB := Eq.trans (Eq.symm h1) h2
    exact Option.some.inj h3
theorem sg_cvnew {kd q : Nat} : sg_cv (sg_pu Λ kd q) (sg_r (Λ.1 : Int)) = .ref q := by
  show sg_rf _ _ = _
  rw [sg_rf_ref (by omega), Int.toNat_natCast]
  show Value.ref (va_up Λ.2.2 Λ.1 q Λ.1) = _
  unfold va_up
  rw [if_pos rfl]
theorem gw_newI (F : sg_F p s m args meth c own cc nL ret G A) {n : Int} {N : Nat} (hw : Cond.arrayClass .int ∈ sg_W0) (hN : (N : Int) = n) (hb1 : N ≤ 9999) (hcells : cells + 1 ≤ R.cells) (hslots : slots + N ≤ R.slots) (hvL : ∀ q ∈ L, sg_vok Λ q.2) (hvS : ∀ q ∈ S, sg_vok Λ q) (hd : decode cc pc = .ok (.newarray .int, 2))
    (k : ∀ q : Nat, sg_W p l e R s m args below meth c Q nL G A (sg_pu Λ (10000 + N) q) (sg_nw σ Λ.1 (10000 + N)) (cells + 1) (slots + N) (pc + 2) L (sg_r (Λ.1 : Int) :: S)) : sg_W p l e R s m args below meth c Q nL G A Λ σ cells slots pc L (sg_i n :: S) := by
  intro H locs ls hH hS hl
  obtain ⟨hx, hb, -, -, hown, hts, -, hK, hA, hN9, -⟩ := id F
  have rn : sg_R n := ⟨by omega, by omega⟩
  refine va_newa (atype := .int) hx hb (hts _ hw) (ty := .int) rfl hK hH.1 hH.2.1 hS hA (n := Int32.ofInt n) (N' := N) (a0 := (N, .inl (fun _ => 0))) (fun cA => by rfl) (fun h => ?_) (by rw [sg_nat rn]; omega) (by show N * 4 ≤ _; omega) hcells hslots hd (fun q cA H1 hK1 hP hD hS1 => ?_)
  · have h2 : Int32.ofInt n < Int32.ofInt 0 := h
    rw [sg_lt rn ⟨by omega, by omega⟩] at h2
    omega
  · have e1 : cA = G.2.1 0 := sg_RA (hK1.2 5 _ rfl).2 (hK.2 0 _ rfl).2
    subst e1
    have hH1 : sg_H G A (sg_pu Λ (10000 + N) q) (sg_nw σ Λ.1 (10000 + N)) H1 := by
      refine sg_H_new (E := .inl (G.2.1 0, N, .inl (fun _ => 0))) hH ?_ ?_ hP hD
      · rw [sg_cell_int (by omega) (by omega), show 10000 + N - 10000 = N by omega]
        congr 4
        funext j
        unfold sg_zero
        rw [sg_dcA_int (by omega) (by omega)]
        rfl
      · intro j
        rw [sg_dcA_int (by omega) (by omega)]
        exact ⟨by decide, by decide⟩
    have h1 := k q H1 locs ls hH1 hS1 (by rw [sg_vL sg_pu_E hvL]; exact hl)
    rw [List.map_cons, sg_vS sg_pu_E hvS, sg_cvnew] at h1
    exact h1
theorem gw_newZ (F : sg_F p s m args meth c own cc nL ret G A) {n : Int} {N : Nat} (hw : Cond.arrayClass .boolean ∈ sg_W0) (hN : (N : Int) = n) (hb1 : N ≤ 9999) (hcells : cells + 1 ≤ R.cells) (hslots : slots + N ≤ R.slots) (hvL : ∀ q ∈ L, sg_vok Λ q.2) (hvS : ∀ q ∈ S, sg_vok Λ q) (hd : decode cc pc = .ok (.newarray .boolean, 2))
    (k : ∀ q : Nat, sg_W p l e R s m args below meth c Q nL G A (sg_pu Λ (20000 + N) q) (sg_nw σ Λ.1 (20000 + N)) (cells + 1) (slots + N) (pc + 2) L (sg_r (Λ.1 : Int) :: S)) : sg_W p l e R s m args below meth c Q nL G A Λ σ cells slots pc L (sg_i n :: S) := by
  intro H locs ls hH hS hl
  obtain ⟨hx, hb, -, -, hown, hts, -, hK, hA, hN9, -⟩ := id F
  have rn : sg_R n := ⟨by omega, by omega⟩
  refine va_newa (atype := .boolean) hx hb (hts _ hw) (ty := .boolean) rfl hK hH.1 hH.2.1 hS hA (n := Int32.ofInt n) (N' := N) (a0 := (N, .inl (fun _ => 0))) (fun cA => by rfl) (fun h => ?_) (by rw [sg_nat rn]; omega) (by show N * 1 ≤ _; omega) hcells hslots hd (fun q cA H1 hK1 hP hD hS1 => ?_)
  · have h2 : Int32.ofInt n < Int32.ofInt 0 := h
    rw [sg_lt rn ⟨by omega, by omega⟩] at h2
    omega
  · have e1 : cA = G.2.1 1 := sg_RA (hK1.2 5 _ rfl).2 (hK.2 1 _ rfl).2
    subst e1
    have hH1 : sg_H G A (sg_pu Λ (20000 + N) q) (sg_nw σ Λ.1 (20000 + N)) H1 := by
      refine sg_H_new (E := .inl (G.2.1 1, N, .inl (fun _ => 0))) hH ?_ ?_ hP hD
      · rw [sg_cell_bool (by omega) (by omega), show 20000 + N - 20000 = N by omega]
        congr 4
        funext j
        unfold sg_zero
        rw [sg_dcA_bool (by omega) (by omega)]
        rfl
      · intro j
        rw [sg_dcA_bool (by omega) (by omega)]
        exact ⟨by decide, by decide⟩
    have h1 := k q H1 locs ls hH1 hS1 (by rw [sg_vL sg_pu_E hvL]; exact hl)
    rw [List.map_cons, sg_vS sg_pu_E hvS, sg_cvnew] at h1
    exact h1
theorem gw_newJ (F : sg_F p s m args meth c own cc nL ret G A) {n : Int} {N : Nat} (hw : Cond.arrayClass .long ∈ sg_W0) (hN : (N : Int) = n) (hb1 : N ≤ 9999) (hcells : cells + 1 ≤ R.cells) (hslots : slots + N ≤ R.slots) (hvL : ∀ q ∈ L, sg_vok Λ q.2) (hvS : ∀ q ∈ S, sg_vok Λ q) (hd : decode cc pc = .ok (.newarray .long, 2))
    (k : ∀ q : Nat, sg_W p l e R s m args below meth c Q nL G A (sg_pu Λ (50000 + N) q) (sg_nw σ Λ.1 (50000 + N)) (cells + 1) (slots + N) (pc + 2) L (sg_r (Λ.1 : Int) :: S)) : sg_W p l e R s m args below meth c Q nL G A Λ σ cells slots pc L (sg_i n :: S) := by
  intro H locs ls hH hS hl
  obtain ⟨hx, hb, -, -, hown, hts, -, hK, hA, hN9, -⟩ := id F
  have rn : sg_R n := ⟨by omega, by omega⟩
  refine va_newa (atype := .long) hx hb (hts _ hw) (ty := .long) rfl hK hH.1 hH.2.1 hS hA (n := Int32.ofInt n) (N' := N) (a0 := (N, .inr (.inl (fun _ => 0)))) (fun cA => by rfl) (fun h => ?_) (by rw [sg_nat rn]; omega) (by show N * 8 ≤ _; omega) hcells hslots hd (fun q cA H1 hK1 hP hD hS1 => ?_)
  · have h2 : Int32.ofInt n < Int32.ofInt 0 := h
    rw [sg_lt rn ⟨by omega, by omega⟩] at h2
    omega
  · have e1 : cA = G.2.1 4 := sg_RA (hK1.2 5 _ rfl).2 (hK.2 4 _ rfl).2
    subst e1
    have hH1 : sg_H G A (sg_pu Λ (50000 + N) q) (sg_nw σ Λ.1 (50000 + N)) H1 := by
      refine sg_H_new (E := .inl (G.2.1 4, N, .inr (.inl (fun _ => 0)))) hH ?_ ?_ hP hD
      · rw [sg_cell_long (by omega), show 50000 + N - 50000 = N by omega]
        congr 5
        funext j
        unfold sg_zero
        rw [sg_dcA_long (by omega)]
        rfl
      · intro j
        rw [sg_dcA_long (by omega)]
        exact ⟨by decide, by decide⟩
    have h1 := k q H1 locs ls hH1 hS1 (by rw [sg_vL sg_pu_E hvL]; exact hl)
    rw [List.map_cons, sg_vS sg_pu_E hvS, sg_cvnew] at h1
    exact h1
theorem gw_newB (F : sg_F p s m args meth c own cc nL ret G A) {n : Int} {N idx : Nat} (hclk : Cond.classLink own idx RX1 ∈ sg_W0) (hover : va_AO RX1 s) (hN : (N : Int) = n) (hb1 : N ≤ 9999) (hcells : cells + 1 ≤ R.cells) (hslots : slots + N ≤ R.slots) (hvL : ∀ q ∈ L, sg_vok Λ q.2) (hvS : ∀ q ∈ S, sg_vok Λ q) (hd : decode cc pc = .ok (.anewarray idx, 3))
    (k : ∀ q : Nat, sg_W p l e R s m args below meth c Q nL G A (sg_pu Λ (30000 + N) q) (sg_nw σ Λ.1 (30000 + N)) (cells + 1) (slots + N) (pc + 3) L (sg_r (Λ.1 : Int) :: S)) : sg_W p l e R s m args below meth c Q nL G A Λ σ cells slots pc L (sg_i n :: S) := by
  intro H locs ls hH hS hl
  obtain ⟨hx, hb, -, -, hown, hts, -, hK, hA, hN9, -⟩ := id F
  have rn : sg_R n := ⟨by omega, by omega⟩
  refine va_newq hx hb hown (hts _ hclk) hover hK hH.1 hH.2.1 hS hA (n := Int32.ofInt n) (N' := N) (fun h => ?_) (by rw [sg_nat rn]; omega) (by omega) hcells hslots hd (fun q cA H1 hK1 hP hD hS1 => ?_)
  · have h2 : Int32.ofInt n < Int32.ofInt 0 := h
    rw [sg_lt rn ⟨by omega, by omega⟩] at h2
    omega
  · have e1 : cA = G.2.1 2 := sg_RA (hK1.2 5 _ rfl).2 (hK.2 2 _ rfl).2
    subst e1
    have hH1 : sg_H G A (sg_pu Λ (30000 + N) q) (sg_nw σ Λ.1 (30000 + N)) H1 := by
      refine sg_H_new (E := .inl (G.2.1 2, N, .inr (.inr (.inr (.inr (fun _ => none)))))) hH ?_ ?_ hP hD
      · rw [sg_cell_refB (by omega) (by omega), show 30000 + N - 30000 = N by omega]
        congr 8
        funext j
        unfold sg_zero
        rw [sg_dcA_refB (by omega) (by omega)]
        rfl
      · intro j
        rw [sg_dcA_refB (by omega) (by omega)]
        exact ⟨by decide, by decide⟩
    have h1 := k q H1 locs ls hH1 hS1 (by rw [sg_vL sg_pu_E hvL]; exact hl)
    rw [List.map_cons, sg_vS sg_pu_E hvS, sg_cvnew] at h1
    exact h1
theorem gw_newT (F : sg_F p s m args meth c own cc nL ret G A) {n : Int} {N idx : Nat} (hclk : Cond.classLink own idx RX7 ∈ sg_W0) (hover : va_AO RX7 s) (hN : (N : Int) = n) (hb1 : N ≤ 9999) (hcells : cells + 1 ≤ R.cells) (hslots : slots + N ≤ R.slots) (hvL : ∀ q ∈ L, sg_vok Λ q.2) (hvS : ∀ q ∈ S, sg_vok Λ q) (hd : decode cc pc = .ok (.anewarray idx, 3))
    (k : ∀ q : Nat, sg_W p l e R s m args below meth c Q nL G A (sg_pu Λ (40000 + N) q) (sg_nw σ Λ.1 (40000 + N)) (cells + 1) (slots + N) (pc + 3) L (sg_r (Λ.1 : Int) :: S)) : sg_W p l e R s m args below meth c Q nL G A Λ σ cells slots pc L (sg_i n :: S) := by
  intro H locs ls hH hS hl
  obtain ⟨hx, hb, -, -, hown, hts, -, hK, hA, hN9, -⟩ := id F
  have rn : sg_R n := ⟨by omega, by omega⟩
  refine va_newq hx hb hown (hts _ hclk) hover hK hH.1 hH.2.1 hS hA (n := Int32.ofInt n) (N' := N) (fun h => ?_) (by rw [sg_nat rn]; omega) (by omega) hcells hslots hd (fun q cA H1 hK1 hP hD hS1 => ?_)
  · have h2 : Int32.ofInt n < Int32.ofInt 0 := h
    rw [sg_lt rn ⟨by omega, by omega⟩] at h2
    omega
  · have e1 : cA = G.2.1 3 := sg_RA (hK1.2 5 _ rfl).2 (hK.2 3 _ rfl).2
    subst e1
    have hH1 : sg_H G A (sg_pu Λ (40000 + N) q) (sg_nw σ Λ.1 (40000 + N)) H1 := by
      refine sg_H_new (E := .inl (G.2.1 3, N, .inr (.inr (.inr (.inr (fun _ => none)))))) hH ?_ ?_ hP hD
      · rw [sg_cell_refS (by omega) (by omega), show 40000 + N - 40000 = N by omega]
        congr 8
        funext j
        unfold sg_zero
        rw [sg_dcA_refS (by omega) (by omega)]
        rfl
      · intro j
        rw [sg_dcA_refS (by omega) (by omega)]
        exact ⟨by decide, by decide⟩
    have h1 := k q H1 locs ls hH1 hS1 (by rw [sg_vL sg_pu_E hvL]; exact hl)
    rw [List.map_cons, sg_vS sg_pu_E hvS, sg_cvnew] at h1
    exact h1
theorem sg_dsc_kind : ∀ kd : Nat, kd < 100 → ∀ d ∈ sg_dsc kd, d.2.2 < 20 ∨ d.2.2 = 27 ∨ 9999 ≤ d.2.2 := by decide +kernel
theorem sg_dcA_kind (kd j : Nat) : (sg_dcA kd j).2.2 < 20 ∨ (sg_dcA kd j).2.2 = 27 ∨ 9999 ≤ (sg_dcA kd j).2.2 := by
  unfold sg_dcA
  split
  · next h =>
    rw [List.getD_eq_getElem?_getD]
    cases hj : (sg_dsc kd)[j]? with
    | none => exact Or.inl (by decide)
    | some d => exact sg_dsc_kind kd h d (List.mem_of_getElem? hj)
  · split
    · exact Or.inl (by decide)
    · split
      · exact Or.inl (by decide)
      · split
        · exact Or.inl (by decide)
        · split <;> exact Or.inl (by decide)
theorem sg_isK_se {o kd kd' t code : Nat} (ho : Λ.2.1 o = kd) (hr : 20 ≤ kd ∧ kd < 100 ∧ kd ≠ 27) (hc : code < 20 ∨ code = 27 ∨ 9999 ≤ code) (h : sg_isK (Λ.2.1 t) code) : sg_isK ((sg_se Λ o kd').2.1 t) code := by
  by_cases e : t = o
  · subst e
    rw [ho] at h
    unfold sg_isK at h
    split at h <;> omega
  · show sg_isK (va_up Λ.2.1 o kd' t) code
    unfold va_up
    rw [if_neg e]
    exact h
/-- an object that is made: its final references are where its kind says -/
theorem gw_seal {o : Int} {kd kd' : Nat} (ho : sg_O Λ o kd) (hr : 20 ≤ kd ∧ kd < 100 ∧ kd ≠ 27) (hk' : kd' < 100) (hm : kd % 20 = kd' % 20) (hfs : ∀ ad : Nat → Nat, sg_fs ad (σ o) o.toNat (sg_dsc kd) = sg_fs ad (σ o) o.toNat (sg_dsc kd')) (hok : ∀ (j : Nat) (d : Nat × Nat × Nat), (sg_dsc kd')[j]? = some d → sg_okS (sg_se Λ o.toNat kd') o.toNat (σ o j) d)
    (k : sg_W p l e R s m args below meth c Q nL G A (sg_se Λ o.toNat kd') σ cells slots pc L S) : sg_W p l e R s m args below meth c Q nL G A Λ σ cells slots pc L S := by
  intro H locs ls hH hS hl
  have e0 : ((o.toNat : Nat) : Int) = o := Int.toNat_of_nonneg ho.1
  have hkd : ∀ k : Nat, k ≠ o.toNat → (sg_se Λ o.toNat kd').2.1 k = Λ.2.1 k := by
    intro k hk
    show va_up Λ.2.1 o.toNat kd' k = _
    unfold va_up
    rw [if_neg hk]
  have hko : (sg_se Λ o.toNat kd').2.1 o.toNat = kd' := by
    show va_up Λ.2.1 o.toNat kd' o.toNat = _
    unfold va_up
    rw [if_pos rfl]
  have hws : sg_ws G (sg_se Λ o.toNat kd') σ = sg_ws G Λ σ := by
    unfold sg_ws
    apply List.map_congr_left
    intro k _
    by_cases hk : k = o.toNat
    · subst hk
      rw [hko, ho.2.2, e0]
      show (Λ.2.2 o.toNat, sg_cell G.2.1 Λ.2.2 (σ o) o.toNat kd') = _
      rw [sg_cell_obj hk', sg_cell_obj hr.2.1, hm, hfs]
    · rw [hkd k hk]
      rfl
  refine k H locs ls ⟨by rw [hws]; exact hH.1, by rw [hws]; exact hH.2.1, ?_⟩ hS hl
  intro k hk j
  by_cases hk2 : k = o.toNat
  · subst hk2
    rw [hko, e0]
    cases hj : (sg_dsc kd')[j]? with
    | some d => rw [sg_dcA_obj hk' hj]; exact hok j d hj
    | none =>
      have : sg_dcA kd' j = (9, 0, 0) := by
        unfold sg_dcA
        rw [if_pos hk', List.getD_eq_getElem?_getD, hj]
        rfl
      rw [this]
      trivial
  · rw [hkd k hk2]
    have h1 := hH.2.2 k hk j
    have h2 := sg_dcA_kind (Λ.2.1 k) j
    generalize sg_dcA (Λ.2.1 k) j = d at h1 h2
    obtain ⟨t, off, code⟩ := d
    unfold sg_okS at h1 ⊢
    dsimp only at h1 h2 ⊢
    split at h1
    · exact h1
    · exact h1
    · exact h1
    · exact ⟨h1.1, sg_isK_se ho.2.2 hr h2 h1.2⟩
    · rcases h1 with h | ⟨g1, g2, g3⟩
      · exact Or.inl h
      · refine Or.inr ⟨g1, g2, ?_⟩
        by_cases e : (σ (k : Int) (j : Int)).toNat = o.toNat
        · rw [e, ho.2.2] at g3
          omega
        · rw [hkd _ e]
          exact g3
    · exact h1
    · exact ⟨h1.1, sg_isK_se ho.2.2 hr h2 h1.2⟩
    · trivial
theorem gw_objInit (F : sg_F p s m args meth c own cc nL ret G A) {o : Int} {idx : Nat} (h0 : 0 ≤ o) (hlk : Cond.methodLink own idx Lib.objectInit ∈ sg_W0) (hin : Cond.instanceMethod Lib.objectInit ∈ sg_W0) (hco : Cond.code Lib.objectInit ⟨#[0xb1]⟩ 1 none ∈ sg_W0) (hcs : sg_cats S ≤ 8) (hfr : 1 ≤ R.frames) (hlo : 20 ≤ R.locals) (hd : decode cc pc = .ok (.invokespecial idx, 3))
    (k : sg_W p l e R s m args below meth c Q nL G A Λ σ cells slots (pc + 3) L S) : sg_W p l e R s m args below meth c Q nL G A Λ σ cells slots pc L (sg_r o :: S) := by
  intro H locs ls hH hS hl
  have hts := F.2.2.2.2.2.1
  refine W.objInit F.1 F.2.1 F.2.2.2.2.1 (hts _ hlk) (hts _ hin) (hts _ hco) rfl (by rw [F.2.2.1]; exact hl.1) (a := Λ.2.2 o.toNat) (rest := S.map (sg_cv Λ)) ?_ hd hfr ?_ (k H locs ls hH hS hl)
  · show sg_rf _ _ :: _ = _
    rw [sg_rf_ref h0]
  · have h1 := sg_room (m := m) (pc := pc) (ls := ls) (rest := (sg_r o :: S).map (sg_cv Λ)) (Λ := Λ) hcs
    omega
def sg_max (x y : Int) : Int := if x < y then y else x
def sg_min (x y : Int) : Int := if y < x then y else x
def sg_abs (x : Int) : Int := if 0 ≤ x then x else 0 - x
theorem gw_max (F : sg_F p s m args meth c own cc nL ret G A) {x y z : Int} (rx : sg_R x) (ry : sg_R y) (hz : sg_max x y = z) {idx : Nat} (hlk : Cond.methodLink own idx Lib.Math.max.name ∈ sg_W0) (hst : Cond.static Lib.Math.max.name ∈ sg_W0) (hini : Cond.initialized "java/lang/Math" ∈ sg_W0) (hco : Cond.code Lib.Math.max.name Lib.Math.max.code 2 (some .int) ∈ sg_W0) (hcs : sg_cats S ≤ 8) (hfr : 1 ≤ R.frames) (hlo : 21 ≤ R.locals) (hc : cells ≤ R.cells) (hs : slots ≤ R.slots) (hd : decode cc pc = .ok (.invokestatic idx, 3))
    (k : sg_W p l e R s m args below meth c Q nL G A Λ σ cells slots (pc + 3) L (sg_i z :: S)) : sg_W p l e R s m args below meth c Q nL G A Λ σ cells slots pc L (sg_i y :: sg_i x :: S) := by
  intro H locs ls hH hS hl
  subst hz
  have hts := F.2.2.2.2.2.1
  have h1 := k H locs ls hH hS hl
  refine va_mmax F.1 F.2.1 (by rw [F.2.2.1]; exact hl.1.symm) F.2.2.2.2.1 (hts _ hlk) (hts _ hst) (hts _ hini) (hts _ hco) hfr (by rw [sg_cats_ok]; omega) hc hs hd ?_
  rw [List.map_cons, show sg_cv Λ (sg_i (sg_max x y)) = .int (if Int32.ofInt x < Int32.ofInt y then Int32.ofInt y else Int32.ofInt x) from congrArg Value.int ?_] at h1
  · exact h1
  · unfold sg_max
    simp only [sg_lt rx ry]
    split <;> rfl
theorem gw_min (F : sg_F p s m args meth c own cc nL ret G A) {x y z : Int} (rx : sg_R x) (ry : sg_R y) (hz : sg_min x y = z) {idx : Nat} (hlk : Cond.methodLink own idx Lib.Math.min.name ∈ sg_W0) (hst : Cond.static Lib.Math.min.name ∈ sg_W0) (hini : Cond.initialized "java/lang/Math" ∈ sg_W0) (hco : Cond.code Lib.Math.min.name Lib.Math.min.code 2 (some .int) ∈ sg_W0) (hcs : sg_cats S ≤ 8) (hfr : 1 ≤ R.frames) (hlo : 21 ≤ R.locals) (hc : cells ≤ R.cells) (hs : slots ≤ R.slots) (hd : decode cc pc = .ok (.invokestatic idx, 3))
    (k : sg_W p l e R s m args below meth c Q nL G A Λ σ cells slots (pc + 3) L (sg_i z :: S)) : sg_W p l e R s m args below meth c Q nL G A Λ σ cells slots pc L (sg_i y :: sg_i x :: S) := by
  intro H locs ls hH hS hl
  subst hz
  have hts := F.2.2.2.2.2.1
  have h1 := k H locs ls hH hS hl
  refine va_mmin F.1 F.2.1 (by rw [F.2.2.1]; exact hl.1.symm) F.2.2.2.2.1 (hts _ hlk) (hts _ hst) (hts _ hini) (hts _ hco) hfr (by rw [sg_cats_ok]; omega) hc hs hd ?_
  rw [List.map_cons, show sg_cv Λ (sg_i (sg_min x y)) = .int (if Int32.ofInt y < Int32.ofInt x then Int32.ofInt y else Int32.ofInt x) from congrArg Value.int ?_] at h1
  · exact h1
  · unfold sg_min
    simp only [sg_lt ry rx]
    split <;> rfl
theorem gw_abs (F : sg_F p s m args meth c own cc nL ret G A) {x z : Int} (rx : sg_R x) (hz : sg_abs x = z) {idx : Nat} (hlk : Cond.methodLink own idx Lib.Math.abs.name ∈ sg_W0) (hst : Cond.static Lib.Math.abs.name ∈ sg_W0) (hini : Cond.initialized "java/lang/Math" ∈ sg_W0) (hco : Cond.code Lib.Math.abs.name Lib.Math.abs.code 1 (some .int) ∈ sg_W0) (hcs : sg_cats S ≤ 8) (hfr : 1 ≤ R.frames) (hlo : 21 ≤ R.locals) (hc : cells ≤ R.cells) (hs : slots ≤ R.slots) (hd : decode cc pc = .ok (.invokestatic idx, 3))
    (k : sg_W p l e R s m args below meth c Q nL G A Λ σ cells slots (pc + 3) L (sg_i z :: S)) : sg_W p l e R s m args below meth c Q nL G A Λ σ cells slots pc L (sg_i x :: S) := by
  intro H locs ls hH hS hl
  subst hz
  have hts := F.2.2.2.2.2.1
  have h1 := k H locs ls hH hS hl
  refine va_mabs F.1 F.2.1 (by rw [F.2.2.1]; exact hl.1.symm) F.2.2.2.2.1 (hts _ hlk) (hts _ hst) (hts _ hini) (hts _ hco) hfr (by rw [sg_cats_ok]; omega) hc hs hd ?_
  rw [List.map_cons, show sg_cv Λ (sg_i (sg_abs x)) = .int (if 0 ≤ Int32.ofInt x then Int32.ofInt x else 0 - Int32.ofInt x) from congrArg Value.int ?_] at h1
  · exact h1
  · unfold sg_abs
    have e1 : (0 : Int32) ≤ Int32.ofInt x ↔ 0 ≤ x := sg_le (x := 0) ⟨by omega, by omega⟩ rx
    simp only [e1]
    split
    · rfl
    · exact Int32.ofInt_sub 0 x
end SGM
