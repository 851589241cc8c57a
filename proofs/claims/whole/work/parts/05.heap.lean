section SGP
/-- o is a cell of that very kind -/
def sg_O (Λ : sg_L) (o : Int) (kd : Nat) : Prop := 0 ≤ o ∧ o.toNat < Λ.1 ∧ Λ.2.1 o.toNat = kd
def sg_ln (Λ : sg_L) (a : Int) : Int := (Λ.2.1 a.toNat : Int) - 10000
/-- a is an int array of length n -/
def sg_AN (Λ : sg_L) (a n : Int) : Prop := 0 ≤ a ∧ a.toNat < Λ.1 ∧ 10000 ≤ Λ.2.1 a.toNat ∧ Λ.2.1 a.toNat < 20000 ∧ (Λ.2.1 a.toNat : Int) = 10000 + n
theorem sg_AN_of {Λ : sg_L} {a n : Int} {kd : Nat} (h : sg_O Λ a kd) (h1 : 10000 ≤ kd) (h2 : kd < 20000) (hn : (kd : Int) = 10000 + n) : sg_AN Λ a n := ⟨h.1, h.2.1, by rw [h.2.2]; exact h1, by rw [h.2.2]; exact h2, by rw [h.2.2]; exact hn⟩
theorem sg_AN_any {Λ : sg_L} {a : Int} (h : sg_T Λ a 9999) : sg_AN Λ a (sg_ln Λ a) := by
  have h2 : 10000 ≤ Λ.2.1 a.toNat ∧ Λ.2.1 a.toNat < 20000 := h.2.2
  exact ⟨h.1, h.2.1, h2.1, h2.2, by unfold sg_ln; omega⟩
theorem sg_O_of {Λ : sg_L} {a : Int} {kd : Nat} (h : sg_T Λ a kd) (hne : kd ≠ 9999) : sg_O Λ a kd := by
  have h2 := h.2.2
  unfold sg_isK at h2
  rw [if_neg hne] at h2
  exact ⟨h.1, h.2.1, h2⟩
variable {p : Program} {l : Launch} {e : Env} {R : Room} {s : State} {m : MethodId} {args : Array Value} {below : List Frame} {meth : Method} {c : Code} {Q : State → Prop} {G : sg_G} {A : Nat → Prop} {Λ : sg_L} {σ σ1 : sg_M} {cells slots : Nat} {own : String} {cc : ByteArray} {nL : Nat} {ret : Option FieldType} {pc : Nat} {L L' : List (Nat × sg_V)} {S : List sg_V}
theorem sg_dcA_obj {kd j : Nat} {d : Nat × Nat × Nat} (h : kd < 100) (hd : (sg_dsc kd)[j]? = some d) : sg_dcA kd j = d := by
  unfold sg_dcA
  rw [if_pos h, List.getD_eq_getElem?_getD, hd]
  rfl
theorem sg_cell_obj {cy : Nat → ClassId} {ad : Nat → Nat} {f : Int → Int} {k kd : Nat} (h : kd < 100) : sg_cell cy ad f k kd = .inr (kd % 20, sg_fs ad f k (sg_dsc kd)) := by
  unfold sg_cell
  rw [if_pos h]
/-- the slot of an object, read -/
theorem sg_getc (F : sg_F p s m args meth c own cc nL ret G A) {o : Int} {kd j idx N : Nat} {d : Nat × Nat × Nat} {C host : String} {T : u_T} (ho : sg_O Λ o kd) (hkd : kd < 100) (hcl : vwCl[kd % 20]? = some (C, T, N)) (hlay : ∀ w ∈ u_ws C T N, w ∈ sg_W0) (hj : j < N) (hds : (sg_dsc kd)[j]? = some d)
    (hlk : Cond.fieldLink own idx (T j).1 (T j).2.1 (T j).2.2.1 ∈ sg_W0 ∨ Cond.fieldLinkNest own idx (T j).1 (T j).2.1 (T j).2.2.1 host ∈ sg_WN) (hd : decode cc pc = .ok (.getfield idx, 3)) {H : Heap} {locs : List Loc} {ls : Array Slot} {rest : List Value} (hH : sg_H G A Λ σ H)
    (k : W p l e R s m args below meth c H locs cells slots Q (F0 m (pc + 3) ls (sg_sv Λ.2.2 o.toNat (σ o j) d :: rest))) : W p l e R s m args below meth c H locs cells slots Q (F0 m pc ls (.ref (Λ.2.2 o.toNat) :: rest)) := by
  obtain ⟨hx, hb, -, -, hown, hts, -, hK, -, hN, -⟩ := F
  have e0 : ((o.toNat : Nat) : Int) = o := Int.toNat_of_nonneg ho.1
  have he := sg_ws_at (G := G) (σ := σ) ho.2.1
  rw [ho.2.2, sg_cell_obj hkd, e0] at he
  rcases hlk with hl | hl
  · exact va_get hx hb hts hlay hown hK hH.1 o.toNat he hcl j hj (hts _ hl) (fun _ h => h) (sg_fs_at hds) hd k
  · exact va_getN hx hb hts hlay hown hK hH.1 o.toNat he hcl j hj (va_Nw.use rfl (hN _ hl)) (fun _ h => h) (sg_fs_at hds) hd k
theorem sg_slot_ok {o : Int} {kd j : Nat} {d : Nat × Nat × Nat} {H : Heap} (hH : sg_H G A Λ σ H) (ho : sg_O Λ o kd) (hkd : kd < 100) (hds : (sg_dsc kd)[j]? = some d) : sg_okS Λ o.toNat (σ o j) d := by
  have e0 : ((o.toNat : Nat) : Int) = o := Int.toNat_of_nonneg ho.1
  have h := hH.2.2 o.toNat ho.2.1 j
  rw [ho.2.2, sg_dcA_obj hkd hds, e0] at h
  exact h
theorem gw_get0 (F : sg_F p s m args meth c own cc nL ret G A) {o : Int} {kd j idx N : Nat} {C host : String} {T : u_T} (ho : sg_O Λ o kd) (hkd : kd < 100) (hcl : vwCl[kd % 20]? = some (C, T, N)) (hlay : ∀ w ∈ u_ws C T N, w ∈ sg_W0) (hj : j < N)  (hds : (sg_dsc kd)[j]? = some (0, 0, 0)) (hlk : Cond.fieldLink own idx (T j).1 (T j).2.1 (T j).2.2.1 ∈ sg_W0 ∨ Cond.fieldLinkNest own idx (T j).1 (T j).2.1 (T j).2.2.1 host ∈ sg_WN) (hd : decode cc pc = .ok (.getfield idx, 3)) (k : sg_R (σ o j) → sg_W p l e R s m args below meth c Q nL G A Λ σ cells slots (pc + 3) L (sg_i (σ o j) :: S)) : sg_W p l e R s m args below meth c Q nL G A Λ σ cells slots pc L (sg_r o :: S) := by
  intro H locs ls hH hS hl
  have hok := sg_slot_ok hH ho hkd hds
  show W p l e R s m args below meth c H locs cells slots Q (F0 m pc ls (sg_rf Λ.2.2 o :: S.map (sg_cv Λ)))
  rw [sg_rf_ref ho.1]
  refine sg_getc F ho hkd hcl hlay hj hds hlk hd hH ?_
  have h1 := k hok H locs ls hH hS hl
  exact h1
theorem gw_get1 (F : sg_F p s m args meth c own cc nL ret G A) {o : Int} {kd j idx N : Nat} {C host : String} {T : u_T} (ho : sg_O Λ o kd) (hkd : kd < 100) (hcl : vwCl[kd % 20]? = some (C, T, N)) (hlay : ∀ w ∈ u_ws C T N, w ∈ sg_W0) (hj : j < N)  (hds : (sg_dsc kd)[j]? = some (1, 0, 0)) (hlk : Cond.fieldLink own idx (T j).1 (T j).2.1 (T j).2.2.1 ∈ sg_W0 ∨ Cond.fieldLinkNest own idx (T j).1 (T j).2.1 (T j).2.2.1 host ∈ sg_WN) (hd : decode cc pc = .ok (.getfield idx, 3)) (k : sg_B (σ o j) → sg_W p l e R s m args below meth c Q nL G A Λ σ cells slots (pc + 3) L (sg_i (σ o j) :: S)) : sg_W p l e R s m args below meth c Q nL G A Λ σ cells slots pc L (sg_r o :: S) := by
  intro H locs ls hH hS hl
  have hok := sg_slot_ok hH ho hkd hds
  show W p l e R s m args below meth c H locs cells slots Q (F0 m pc ls (sg_rf Λ.2.2 o :: S.map (sg_cv Λ)))
  rw [sg_rf_ref ho.1]
  refine sg_getc F ho hkd hcl hlay hj hds hlk hd hH ?_
  have h1 := k hok H locs ls hH hS hl
  exact h1
theorem gw_get2 (F : sg_F p s m args meth c own cc nL ret G A) {o : Int} {kd j idx N : Nat} {C host : String} {T : u_T} (ho : sg_O Λ o kd) (hkd : kd < 100) (hcl : vwCl[kd % 20]? = some (C, T, N)) (hlay : ∀ w ∈ u_ws C T N, w ∈ sg_W0) (hj : j < N)  (hds : (sg_dsc kd)[j]? = some (2, 0, 0)) (hlk : Cond.fieldLink own idx (T j).1 (T j).2.1 (T j).2.2.1 ∈ sg_W0 ∨ Cond.fieldLinkNest own idx (T j).1 (T j).2.1 (T j).2.2.1 host ∈ sg_WN) (hd : decode cc pc = .ok (.getfield idx, 3)) (k : sg_R64 (σ o j) → sg_W p l e R s m args below meth c Q nL G A Λ σ cells slots (pc + 3) L (sg_l (σ o j) :: S)) : sg_W p l e R s m args below meth c Q nL G A Λ σ cells slots pc L (sg_r o :: S) := by
  intro H locs ls hH hS hl
  have hok := sg_slot_ok hH ho hkd hds
  show W p l e R s m args below meth c H locs cells slots Q (F0 m pc ls (sg_rf Λ.2.2 o :: S.map (sg_cv Λ)))
  rw [sg_rf_ref ho.1]
  refine sg_getc F ho hkd hcl hlay hj hds hlk hd hH ?_
  have h1 := k hok H locs ls hH hS hl
  exact h1
theorem gw_get3 (F : sg_F p s m args meth c own cc nL ret G A) {o : Int} {kd j idx N : Nat} {C host : String} {T : u_T} (ho : sg_O Λ o kd) (hkd : kd < 100) (hcl : vwCl[kd % 20]? = some (C, T, N)) (hlay : ∀ w ∈ u_ws C T N, w ∈ sg_W0) (hj : j < N) {off code : Nat} {o1 : Int} (ho1 : o + off = o1) (hds : (sg_dsc kd)[j]? = some (3, off, code)) (hlk : Cond.fieldLink own idx (T j).1 (T j).2.1 (T j).2.2.1 ∈ sg_W0 ∨ Cond.fieldLinkNest own idx (T j).1 (T j).2.1 (T j).2.2.1 host ∈ sg_WN) (hd : decode cc pc = .ok (.getfield idx, 3)) (k : sg_T Λ o1 code → sg_W p l e R s m args below meth c Q nL G A Λ σ cells slots (pc + 3) L (sg_r o1 :: S)) : sg_W p l e R s m args below meth c Q nL G A Λ σ cells slots pc L (sg_r o :: S) := by
  intro H locs ls hH hS hl
  have hok := sg_slot_ok hH ho hkd hds
  show W p l e R s m args below meth c H locs cells slots Q (F0 m pc ls (sg_rf Λ.2.2 o :: S.map (sg_cv Λ)))
  rw [sg_rf_ref ho.1]
  refine sg_getc F ho hkd hcl hlay hj hds hlk hd hH ?_
  have h1 := k ⟨by have := ho.1; omega, by have h9 : o.toNat + off < Λ.1 := hok.1; have e0 := Int.toNat_of_nonneg ho.1; omega, by have h2 : sg_isK (Λ.2.1 (o.toNat + off)) code := hok.2; rw [show o.toNat + off = o1.toNat by have e0 := Int.toNat_of_nonneg ho.1; omega] at h2; exact h2⟩ H locs ls hH hS hl
  rw [List.map_cons, show sg_cv Λ (sg_r o1) = .ref (Λ.2.2 o1.toNat) from sg_rf_ref (by have := ho.1; omega)] at h1
  rw [show o1.toNat = o.toNat + off by have e0 := Int.toNat_of_nonneg ho.1; omega] at h1
  exact h1
theorem gw_get7 (F : sg_F p s m args meth c own cc nL ret G A) {o : Int} {kd j idx N : Nat} {C host : String} {T : u_T} (ho : sg_O Λ o kd) (hkd : kd < 100) (hcl : vwCl[kd % 20]? = some (C, T, N)) (hlay : ∀ w ∈ u_ws C T N, w ∈ sg_W0) (hj : j < N) {off code : Nat} {o1 : Int} (ho1 : (off : Int) = o1) (hds : (sg_dsc kd)[j]? = some (7, off, code)) (hlk : Cond.fieldLink own idx (T j).1 (T j).2.1 (T j).2.2.1 ∈ sg_W0 ∨ Cond.fieldLinkNest own idx (T j).1 (T j).2.1 (T j).2.2.1 host ∈ sg_WN) (hd : decode cc pc = .ok (.getfield idx, 3)) (k : sg_T Λ o1 code → sg_W p l e R s m args below meth c Q nL G A Λ σ cells slots (pc + 3) L (sg_r o1 :: S)) : sg_W p l e R s m args below meth c Q nL G A Λ σ cells slots pc L (sg_r o :: S) := by
  intro H locs ls hH hS hl
  have hok := sg_slot_ok hH ho hkd hds
  show W p l e R s m args below meth c H locs cells slots Q (F0 m pc ls (sg_rf Λ.2.2 o :: S.map (sg_cv Λ)))
  rw [sg_rf_ref ho.1]
  refine sg_getc F ho hkd hcl hlay hj hds hlk hd hH ?_
  have h1 := k ⟨by omega, by have h9 : off < Λ.1 := hok.1; omega, by have h2 : sg_isK (Λ.2.1 off) code := hok.2; rw [show off = o1.toNat by omega] at h2; exact h2⟩ H locs ls hH hS hl
  rw [List.map_cons, show sg_cv Λ (sg_r o1) = .ref (Λ.2.2 o1.toNat) from sg_rf_ref (by omega)] at h1
  rw [show o1.toNat = off by omega] at h1
  exact h1
theorem gw_get4 (F : sg_F p s m args meth c own cc nL ret G A) {o : Int} {kd j idx N : Nat} {C host : String} {T : u_T} (ho : sg_O Λ o kd) (hkd : kd < 100) (hcl : vwCl[kd % 20]? = some (C, T, N)) (hlay : ∀ w ∈ u_ws C T N, w ∈ sg_W0) (hj : j < N) {z code : Nat} (hds : (sg_dsc kd)[j]? = some (4, z, code)) (hlk : Cond.fieldLink own idx (T j).1 (T j).2.1 (T j).2.2.1 ∈ sg_W0 ∨ Cond.fieldLinkNest own idx (T j).1 (T j).2.1 (T j).2.2.1 host ∈ sg_WN) (hd : decode cc pc = .ok (.getfield idx, 3)) (k : (σ o j = -1 ∨ sg_O Λ (σ o j) code) → sg_W p l e R s m args below meth c Q nL G A Λ σ cells slots (pc + 3) L (sg_r (σ o j) :: S)) : sg_W p l e R s m args below meth c Q nL G A Λ σ cells slots pc L (sg_r o :: S) := by
  intro H locs ls hH hS hl
  have hok := sg_slot_ok hH ho hkd hds
  show W p l e R s m args below meth c H locs cells slots Q (F0 m pc ls (sg_rf Λ.2.2 o :: S.map (sg_cv Λ)))
  rw [sg_rf_ref ho.1]
  refine sg_getc F ho hkd hcl hlay hj hds hlk hd hH ?_
  have h1 := k hok H locs ls hH hS hl
  exact h1
theorem gw_get5 (F : sg_F p s m args meth c own cc nL ret G A) {o : Int} {kd j idx N : Nat} {C host : String} {T : u_T} (ho : sg_O Λ o kd) (hkd : kd < 100) (hcl : vwCl[kd % 20]? = some (C, T, N)) (hlay : ∀ w ∈ u_ws C T N, w ∈ sg_W0) (hj : j < N) {z code : Nat} (hds : (sg_dsc kd)[j]? = some (5, z, code)) (hlk : Cond.fieldLink own idx (T j).1 (T j).2.1 (T j).2.2.1 ∈ sg_W0 ∨ Cond.fieldLinkNest own idx (T j).1 (T j).2.1 (T j).2.2.1 host ∈ sg_WN) (hd : decode cc pc = .ok (.getfield idx, 3)) (k : (σ o j = -1 ∨ (0 ≤ σ o j ∧ (σ o j).toNat < Λ.1)) → sg_W p l e R s m args below meth c Q nL G A Λ σ cells slots (pc + 3) L (sg_r (σ o j) :: S)) : sg_W p l e R s m args below meth c Q nL G A Λ σ cells slots pc L (sg_r o :: S) := by
  intro H locs ls hH hS hl
  have hok := sg_slot_ok hH ho hkd hds
  show W p l e R s m args below meth c H locs cells slots Q (F0 m pc ls (sg_rf Λ.2.2 o :: S.map (sg_cv Λ)))
  rw [sg_rf_ref ho.1]
  refine sg_getc F ho hkd hcl hlay hj hds hlk hd hH ?_
  have h1 := k hok H locs ls hH hS hl
  exact h1
theorem sg_H_ok {o : Int} {kd : Nat} {H H1 : Heap} {v : Int} {j : Nat} (hH : sg_H G A Λ σ H) (ho : sg_O Λ o kd) (hok : sg_okS Λ o.toNat v (sg_dcA kd j)) : ∀ k : Nat, k < Λ.1 → ∀ i : Nat, sg_okS Λ k (sg_up σ o j v k i) (sg_dcA (Λ.2.1 k) i) := by
  intro k hk i
  have e0 : ((o.toNat : Nat) : Int) = o := Int.toNat_of_nonneg ho.1
  by_cases h : (k : Int) = o ∧ (i : Int) = (j : Int)
  · have hk2 : k = o.toNat := by omega
    have hi2 : i = j := by omega
    subst hk2; subst hi2
    rw [e0, show sg_up σ o i v o i = v by simp [sg_up], ho.2.2]
    exact hok
  · rw [show sg_up σ o j v k i = σ k i by simp only [sg_up]; rw [if_neg h]]
    exact hH.2.2 k hk i
theorem sg_H_set {o v : Int} {kd j : Nat} {H1 : Heap} {E : va_E} (ho : sg_O Λ o kd) (hE : E = sg_cell G.2.1 Λ.2.2 (fun b => if b = (j : Int) then v else σ o b) o.toNat kd) (hP : va_P G.1 vwCl ((sg_ws G Λ σ).set o.toNat (Λ.2.2 o.toNat, E)) H1) (hD : va_D A ((sg_ws G Λ σ).set o.toNat (Λ.2.2 o.toNat, E))) (hok : ∀ k : Nat, k < Λ.1 → ∀ i : Nat, sg_okS Λ k (sg_up σ o j v k i) (sg_dcA (Λ.2.1 k) i)) : sg_H G A Λ (sg_up σ o j v) H1 := by
  have e0 : ((o.toNat : Nat) : Int) = o := Int.toNat_of_nonneg ho.1
  have h := sg_ws_set (G := G) (Λ := Λ) (σ := σ) (k := o.toNat) (j := j) (v := v) (E := E) ho.2.1 (by rw [hE, ho.2.2, e0])
  rw [e0] at h
  rw [h] at hP hD
  exact ⟨hP, hD, hok⟩
theorem gw_put0 (F : sg_F p s m args meth c own cc nL ret G A) {o : Int} {kd j idx N : Nat} {C host : String} {T : u_T} (ho : sg_O Λ o kd) (hkd : kd < 100) (hcl : vwCl[kd % 20]? = some (C, T, N)) (hlay : ∀ w ∈ u_ws C T N, w ∈ sg_W0) (hj : j < N) {v : Int} {ty0 : Nat → FieldType} (hv : sg_R v) (hσ : σ1 = sg_up σ o j v) (hty : ∀ k, k < N → parseFieldDescriptor (T k).2.2.1 = some (ty0 k)) (hnm : ∀ a, a < N → ∀ b, b < N → a ≠ b → (T a).2.1 ≠ (T b).2.1) (hfin : (T j).2.2.2 = false) (hpd : parseFieldDescriptor (T j).2.2.1 = some .int) (hds : (sg_dsc kd)[j]? = some (0, 0, 0)) (hlk : Cond.fieldLink own idx (T j).1 (T j).2.1 (T j).2.2.1 ∈ sg_W0 ∨ Cond.fieldLinkNest own idx (T j).1 (T j).2.1 (T j).2.2.1 host ∈ sg_WN) (hd : decode cc pc = .ok (.putfield idx, 3)) (k : sg_W p l e R s m args below meth c Q nL G A Λ σ1 cells slots (pc + 3) L S) : sg_W p l e R s m args below meth c Q nL G A Λ σ cells slots pc L ((sg_i v) :: sg_r o :: S) := by
  intro H locs ls hH hS hl
  have e0 : ((o.toNat : Nat) : Int) = o := Int.toNat_of_nonneg ho.1
  have hdc := sg_dcA_obj hkd hds
  have hok1 : sg_okS Λ o.toNat v (sg_dcA kd j) := by rw [hdc]; exact hv
  have hok := sg_H_ok (H1 := H) hH ho hok1
  obtain ⟨hx, hb, -, -, hown, hts, -, hK, -, hN, -⟩ := id F
  have he := sg_ws_at (G := G) (σ := σ) ho.2.1
  rw [ho.2.2, sg_cell_obj hkd, e0] at he
  have hlen : j < (sg_fs Λ.2.2 (σ o) o.toNat (sg_dsc kd)).length := by rw [sg_fs_len]; exact (List.getElem?_eq_some_iff.mp hds).1
  show W p l e R s m args below meth c H locs cells slots Q (F0 m pc ls (sg_cv Λ (sg_i v) :: sg_rf Λ.2.2 o :: S.map (sg_cv Λ)))
  rw [sg_rf_ref ho.1]
  have hE : (.inr (kd % 20, (sg_fs Λ.2.2 (σ o) o.toNat (sg_dsc kd)).set j (.int (Int32.ofInt v))) : va_E) = sg_cell G.2.1 Λ.2.2 (fun b => if b = (j : Int) then v else σ o b) o.toNat kd := by
    rw [sg_cell_obj hkd, ← sg_fs_set (v := v) hds]
    rfl
  subst hσ

  rcases hlk with hl2 | hl2
  · exact va_put hx hb hts hlay ty0 hty hnm hown hK hH.1 hH.2.1 hS o.toNat he hcl j hj (hts _ hl2) (fun _ h => h) hfin hpd rfl rfl hlen hd (fun H1 locs1 hP hD hS1 => k H1 locs1 ls (sg_H_set ho hE hP hD hok) hS1 hl)
  · exact va_putN hx hb hts hlay ty0 hty hnm hown hK hH.1 hH.2.1 hS o.toNat he hcl j hj (va_Nw.use rfl (hN _ hl2)) (fun _ h => h) hfin hpd rfl rfl hlen hd (fun H1 locs1 hP hD hS1 => k H1 locs1 ls (sg_H_set ho hE hP hD hok) hS1 hl)
theorem gw_put0F (F : sg_F p s m args meth c own cc nL ret G A) {o : Int} {kd j idx N : Nat} {C host : String} {T : u_T} (ho : sg_O Λ o kd) (hkd : kd < 100) (hcl : vwCl[kd % 20]? = some (C, T, N)) (hlay : ∀ w ∈ u_ws C T N, w ∈ sg_W0) (hj : j < N) {v : Int} {ty0 : Nat → FieldType} (hv : sg_R v) (hσ : σ1 = sg_up σ o j v) (hty : ∀ k, k < N → parseFieldDescriptor (T k).2.2.1 = some (ty0 k)) (hnm : ∀ a, a < N → ∀ b, b < N → a ≠ b → (T a).2.1 ≠ (T b).2.1) (hfin : (T j).2.2.2 = true) (hin : meth.name = "<init>") (hdecl : (T j).1 = own) (hpd : parseFieldDescriptor (T j).2.2.1 = some .int) (hds : (sg_dsc kd)[j]? = some (0, 0, 0)) (hlk : Cond.fieldLink own idx (T j).1 (T j).2.1 (T j).2.2.1 ∈ sg_W0) (hd : decode cc pc = .ok (.putfield idx, 3)) (k : sg_W p l e R s m args below meth c Q nL G A Λ σ1 cells slots (pc + 3) L S) : sg_W p l e R s m args below meth c Q nL G A Λ σ cells slots pc L ((sg_i v) :: sg_r o :: S) := by
  intro H locs ls hH hS hl
  have e0 : ((o.toNat : Nat) : Int) = o := Int.toNat_of_nonneg ho.1
  have hdc := sg_dcA_obj hkd hds
  have hok1 : sg_okS Λ o.toNat v (sg_dcA kd j) := by rw [hdc]; exact hv
  have hok := sg_H_ok (H1 := H) hH ho hok1
  obtain ⟨hx, hb, -, -, hown, hts, -, hK, -, hN, -⟩ := id F
  have he := sg_ws_at (G := G) (σ := σ) ho.2.1
  rw [ho.2.2, sg_cell_obj hkd, e0] at he
  have hlen : j < (sg_fs Λ.2.2 (σ o) o.toNat (sg_dsc kd)).length := by rw [sg_fs_len]; exact (List.getElem?_eq_some_iff.mp hds).1
  show W p l e R s m args below meth c H locs cells slots Q (F0 m pc ls (sg_cv Λ (sg_i v) :: sg_rf Λ.2.2 o :: S.map (sg_cv Λ)))
  rw [sg_rf_ref ho.1]
  have hE : (.inr (kd % 20, (sg_fs Λ.2.2 (σ o) o.toNat (sg_dsc kd)).set j (.int (Int32.ofInt v))) : va_E) = sg_cell G.2.1 Λ.2.2 (fun b => if b = (j : Int) then v else σ o b) o.toNat kd := by
    rw [sg_cell_obj hkd, ← sg_fs_set (v := v) hds]
    rfl
  subst hσ

  exact va_putF hx hb hts hlay ty0 hty hnm hown hK hH.1 hH.2.1 hS o.toNat he hcl j hj (hts _ hlk) (fun _ h => h) hfin hin hdecl hpd rfl rfl hlen hd (fun H1 locs1 hP hD hS1 => k H1 locs1 ls (sg_H_set ho hE hP hD hok) hS1 hl)
theorem sg_bool {v : Int} (hv : sg_B v) : Int32.ofInt v = 0 ∨ Int32.ofInt v = 1 := by
  rcases (show v = 0 ∨ v = 1 by omega) with h | h <;> subst h
  · exact Or.inl rfl
  · exact Or.inr rfl
theorem sg_narZ {v : Int} (hv : sg_B v) : narrow .boolean (.int (Int32.ofInt v)) = .int (Int32.ofInt v) := by
  rcases sg_bool hv with h | h <;> rw [h] <;> rfl
theorem sg_fitZ {v : Int} (hv : sg_B v) : fits .boolean (.int (Int32.ofInt v)) = true := by
  rcases sg_bool hv with h | h <;> rw [h] <;> rfl
theorem gw_put1 (F : sg_F p s m args meth c own cc nL ret G A) {o : Int} {kd j idx N : Nat} {C host : String} {T : u_T} (ho : sg_O Λ o kd) (hkd : kd < 100) (hcl : vwCl[kd % 20]? = some (C, T, N)) (hlay : ∀ w ∈ u_ws C T N, w ∈ sg_W0) (hj : j < N) {v : Int} {ty0 : Nat → FieldType} (hv : sg_B v) (hσ : σ1 = sg_up σ o j v) (hty : ∀ k, k < N → parseFieldDescriptor (T k).2.2.1 = some (ty0 k)) (hnm : ∀ a, a < N → ∀ b, b < N → a ≠ b → (T a).2.1 ≠ (T b).2.1) (hfin : (T j).2.2.2 = false) (hpd : parseFieldDescriptor (T j).2.2.1 = some .boolean) (hds : (sg_dsc kd)[j]? = some (1, 0, 0)) (hlk : Cond.fieldLink own idx (T j).1 (T j).2.1 (T j).2.2.1 ∈ sg_W0 ∨ Cond.fieldLinkNest own idx (T j).1 (T j).2.1 (T j).2.2.1 host ∈ sg_WN) (hd : decode cc pc = .ok (.putfield idx, 3)) (k : sg_W p l e R s m args below meth c Q nL G A Λ σ1 cells slots (pc + 3) L S) : sg_W p l e R s m args below meth c Q nL G A Λ σ cells slots pc L ((sg_i v) :: sg_r o :: S) := by
  intro H locs ls hH hS hl
  have e0 : ((o.toNat : Nat) : Int) = o := Int.toNat_of_nonneg ho.1
  have hdc := sg_dcA_obj hkd hds
  have hok1 : sg_okS Λ o.toNat v (sg_dcA kd j) := by rw [hdc]; exact hv
  have hok := sg_H_ok (H1 := H) hH ho hok1
  obtain ⟨hx, hb, -, -, hown, hts, -, hK, -, hN, -⟩ := id F
  have he := sg_ws_at (G := G) (σ := σ) ho.2.1
  rw [ho.2.2, sg_cell_obj hkd, e0] at he
  have hlen : j < (sg_fs Λ.2.2 (σ o) o.toNat (sg_dsc kd)).length := by rw [sg_fs_len]; exact (List.getElem?_eq_some_iff.mp hds).1
  show W p l e R s m args below meth c H locs cells slots Q (F0 m pc ls (sg_cv Λ (sg_i v) :: sg_rf Λ.2.2 o :: S.map (sg_cv Λ)))
  rw [sg_rf_ref ho.1]
  have hE : (.inr (kd % 20, (sg_fs Λ.2.2 (σ o) o.toNat (sg_dsc kd)).set j (.int (Int32.ofInt v))) : va_E) = sg_cell G.2.1 Λ.2.2 (fun b => if b = (j : Int) then v else σ o b) o.toNat kd := by
    rw [sg_cell_obj hkd, ← sg_fs_set (v := v) hds]
    rfl
  subst hσ

  rcases hlk with hl2 | hl2
  · exact va_put hx hb hts hlay ty0 hty hnm hown hK hH.1 hH.2.1 hS o.toNat he hcl j hj (hts _ hl2) (fun _ h => h) hfin hpd (sg_narZ hv) (sg_fitZ hv) hlen hd (fun H1 locs1 hP hD hS1 => k H1 locs1 ls (sg_H_set ho hE hP hD hok) hS1 hl)
  · exact va_putN hx hb hts hlay ty0 hty hnm hown hK hH.1 hH.2.1 hS o.toNat he hcl j hj (va_Nw.use rfl (hN _ hl2)) (fun _ h => h) hfin hpd (sg_narZ hv) (sg_fitZ hv) hlen hd (fun H1 locs1 hP hD hS1 => k H1 locs1 ls (sg_H_set ho hE hP hD hok) hS1 hl)
theorem gw_put1F (F : sg_F p s m args meth c own cc nL ret G A) {o : Int} {kd j idx N : Nat} {C host : String} {T : u_T} (ho : sg_O Λ o kd) (hkd : kd < 100) (hcl : vwCl[kd % 20]? = some (C, T, N)) (hlay : ∀ w ∈ u_ws C T N, w ∈ sg_W0) (hj : j < N) {v : Int} {ty0 : Nat → FieldType} (hv : sg_B v) (hσ : σ1 = sg_up σ o j v) (hty : ∀ k, k < N → parseFieldDescriptor (T k).2.2.1 = some (ty0 k)) (hnm : ∀ a, a < N → ∀ b, b < N → a ≠ b → (T a).2.1 ≠ (T b).2.1) (hfin : (T j).2.2.2 = true) (hin : meth.name = "<init>") (hdecl : (T j).1 = own) (hpd : parseFieldDescriptor (T j).2.2.1 = some .boolean) (hds : (sg_dsc kd)[j]? = some (1, 0, 0)) (hlk : Cond.fieldLink own idx (T j).1 (T j).2.1 (T j).2.2.1 ∈ sg_W0) (hd : decode cc pc = .ok (.putfield idx, 3)) (k : sg_W p l e R s m args below meth c Q nL G A Λ σ1 cells slots (pc + 3) L S) : sg_W p l e R s m args below meth c Q nL G A Λ σ cells slots pc L ((sg_i v) :: sg_r o :: S) := by
  intro H locs ls hH hS hl
  have e0 : ((o.toNat : Nat) : Int) = o := Int.toNat_of_nonneg ho.1
  have hdc := sg_dcA_obj hkd hds
  have hok1 : sg_okS Λ o.toNat v (sg_dcA kd j) := by rw [hdc]; exact hv
  have hok := sg_H_ok (H1 := H) hH ho hok1
  obtain ⟨hx, hb, -, -, hown, hts, -, hK, -, hN, -⟩ := id F
  have he := sg_ws_at (G := G) (σ := σ) ho.2.1
  rw [ho.2.2, sg_cell_obj hkd, e0] at he
  have hlen : j < (sg_fs Λ.2.2 (σ o) o.toNat (sg_dsc kd)).length := by rw [sg_fs_len]; exact (List.getElem?_eq_some_iff.mp hds).1
  show W p l e R s m args below meth c H locs cells slots Q (F0 m pc ls (sg_cv Λ (sg_i v) :: sg_rf Λ.2.2 o :: S.map (sg_cv Λ)))
  rw [sg_rf_ref ho.1]
  have hE : (.inr (kd % 20, (sg_fs Λ.2.2 (σ o) o.toNat (sg_dsc kd)).set j (.int (Int32.ofInt v))) : va_E) = sg_cell G.2.1 Λ.2.2 (fun b => if b = (j : Int) then v else σ o b) o.toNat kd := by
    rw [sg_cell_obj hkd, ← sg_fs_set (v := v) hds]
    rfl
  subst hσ

  exact va_putF hx hb hts hlay ty0 hty hnm hown hK hH.1 hH.2.1 hS o.toNat he hcl j hj (hts _ hlk) (fun _ h => h) hfin hin hdecl hpd (sg_narZ hv) (sg_fitZ hv) hlen hd (fun H1 locs1 hP hD hS1 => k H1 locs1 ls (sg_H_set ho hE hP hD hok) hS1 hl)
theorem gw_put2 (F : sg_F p s m args meth c own cc nL ret G A) {o : Int} {kd j idx N : Nat} {C host : String} {T : u_T} (ho : sg_O Λ o kd) (hkd : kd < 100) (hcl : vwCl[kd % 20]? = some (C, T, N)) (hlay : ∀ w ∈ u_ws C T N, w ∈ sg_W0) (hj : j < N) {v : Int} {ty0 : Nat → FieldType} (hv : sg_R64 v) (hσ : σ1 = sg_up σ o j v) (hty : ∀ k, k < N → parseFieldDescriptor (T k).2.2.1 = some (ty0 k)) (hnm : ∀ a, a < N → ∀ b, b < N → a ≠ b → (T a).2.1 ≠ (T b).2.1) (hfin : (T j).2.2.2 = false) (hpd : parseFieldDescriptor (T j).2.2.1 = some .long) (hds : (sg_dsc kd)[j]? = some (2, 0, 0)) (hlk : Cond.fieldLink own idx (T j).1 (T j).2.1 (T j).2.2.1 ∈ sg_W0 ∨ Cond.fieldLinkNest own idx (T j).1 (T j).2.1 (T j).2.2.1 host ∈ sg_WN) (hd : decode cc pc = .ok (.putfield idx, 3)) (k : sg_W p l e R s m args below meth c Q nL G A Λ σ1 cells slots (pc + 3) L S) : sg_W p l e R s m args below meth c Q nL G A Λ σ cells slots pc L ((sg_l v) :: sg_r o :: S) := by
  intro H locs ls hH hS hl
  have e0 : ((o.toNat : Nat) : Int) = o := Int.toNat_of_nonneg ho.1
  have hdc := sg_dcA_obj hkd hds
  have hok1 : sg_okS Λ o.toNat v (sg_dcA kd j) := by rw [hdc]; exact hv
  have hok := sg_H_ok (H1 := H) hH ho hok1
  obtain ⟨hx, hb, -, -, hown, hts, -, hK, -, hN, -⟩ := id F
  have he := sg_ws_at (G := G) (σ := σ) ho.2.1
  rw [ho.2.2, sg_cell_obj hkd, e0] at he
  have hlen : j < (sg_fs Λ.2.2 (σ o) o.toNat (sg_dsc kd)).length := by rw [sg_fs_len]; exact (List.getElem?_eq_some_iff.mp hds).1
  show W p l e R s m args below meth c H locs cells slots Q (F0 m pc ls (sg_cv Λ (sg_l v) :: sg_rf Λ.2.2 o :: S.map (sg_cv Λ)))
  rw [sg_rf_ref ho.1]
  have hE : (.inr (kd % 20, (sg_fs Λ.2.2 (σ o) o.toNat (sg_dsc kd)).set j (.long (Int64.ofInt v))) : va_E) = sg_cell G.2.1 Λ.2.2 (fun b => if b = (j : Int) then v else σ o b) o.toNat kd := by
    rw [sg_cell_obj hkd, ← sg_fs_set (v := v) hds]
    rfl
  subst hσ

  rcases hlk with hl2 | hl2
  · exact va_put hx hb hts hlay ty0 hty hnm hown hK hH.1 hH.2.1 hS o.toNat he hcl j hj (hts _ hl2) (fun _ h => h) hfin hpd rfl rfl hlen hd (fun H1 locs1 hP hD hS1 => k H1 locs1 ls (sg_H_set ho hE hP hD hok) hS1 hl)
  · exact va_putN hx hb hts hlay ty0 hty hnm hown hK hH.1 hH.2.1 hS o.toNat he hcl j hj (va_Nw.use rfl (hN _ hl2)) (fun _ h => h) hfin hpd rfl rfl hlen hd (fun H1 locs1 hP hD hS1 => k H1 locs1 ls (sg_H_set ho hE hP hD hok) hS1 hl)
theorem gw_put2F (F : sg_F p s m args meth c own cc nL ret G A) {o : Int} {kd j idx N : Nat} {C host : String} {T : u_T} (ho : sg_O Λ o kd) (hkd : kd < 100) (hcl : vwCl[kd % 20]? = some (C, T, N)) (hlay : ∀ w ∈ u_ws C T N, w ∈ sg_W0) (hj : j < N) {v : Int} {ty0 : Nat → FieldType} (hv : sg_R64 v) (hσ : σ1 = sg_up σ o j v) (hty : ∀ k, k < N → parseFieldDescriptor (T k).2.2.1 = some (ty0 k)) (hnm : ∀ a, a < N → ∀ b, b < N → a ≠ b → (T a).2.1 ≠ (T b).2.1) (hfin : (T j).2.2.2 = true) (hin : meth.name = "<init>") (hdecl : (T j).1 = own) (hpd : parseFieldDescriptor (T j).2.2.1 = some .long) (hds : (sg_dsc kd)[j]? = some (2, 0, 0)) (hlk : Cond.fieldLink own idx (T j).1 (T j).2.1 (T j).2.2.1 ∈ sg_W0) (hd : decode cc pc = .ok (.putfield idx, 3)) (k : sg_W p l e R s m args below meth c Q nL G A Λ σ1 cells slots (pc + 3) L S) : sg_W p l e R s m args below meth c Q nL G A Λ σ cells slots pc L ((sg_l v) :: sg_r o :: S) := by
  intro H locs ls hH hS hl
  have e0 : ((o.toNat : Nat) : Int) = o := Int.toNat_of_nonneg ho.1
  have hdc := sg_dcA_obj hkd hds
  have hok1 : sg_okS Λ o.toNat v (sg_dcA kd j) := by rw [hdc]; exact hv
  have hok := sg_H_ok (H1 := H) hH ho hok1
  obtain ⟨hx, hb, -, -, hown, hts, -, hK, -, hN, -⟩ := id F
  have he := sg_ws_at (G := G) (σ := σ) ho.2.1
  rw [ho.2.2, sg_cell_obj hkd, e0] at he
  have hlen : j < (sg_fs Λ.2.2 (σ o) o.toNat (sg_dsc kd)).length := by rw [sg_fs_len]; exact (List.getElem?_eq_some_iff.mp hds).1
  show W p l e R s m args below meth c H locs cells slots Q (F0 m pc ls (sg_cv Λ (sg_l v) :: sg_rf Λ.2.2 o :: S.map (sg_cv Λ)))
  rw [sg_rf_ref ho.1]
  have hE : (.inr (kd % 20, (sg_fs Λ.2.2 (σ o) o.toNat (sg_dsc kd)).set j (.long (Int64.ofInt v))) : va_E) = sg_cell G.2.1 Λ.2.2 (fun b => if b = (j : Int) then v else σ o b) o.toNat kd := by
    rw [sg_cell_obj hkd, ← sg_fs_set (v := v) hds]
    rfl
  subst hσ

  exact va_putF hx hb hts hlay ty0 hty hnm hown hK hH.1 hH.2.1 hS o.toNat he hcl j hj (hts _ hlk) (fun _ h => h) hfin hin hdecl hpd rfl rfl hlen hd (fun H1 locs1 hP hD hS1 => k H1 locs1 ls (sg_H_set ho hE hP hD hok) hS1 hl)
theorem gw_put4 (F : sg_F p s m args meth c own cc nL ret G A) {o : Int} {kd j idx N : Nat} {C host : String} {T : u_T} (ho : sg_O Λ o kd) (hkd : kd < 100) (hcl : vwCl[kd % 20]? = some (C, T, N)) (hlay : ∀ w ∈ u_ws C T N, w ∈ sg_W0) (hj : j < N) {v : Int} {z code : Nat} {ty0 : Nat → FieldType} {D0 : String} (h0 : 0 ≤ v) (hv : sg_O Λ v code) (hσ : σ1 = sg_up σ o j v) (hty : ∀ k, k < N → parseFieldDescriptor (T k).2.2.1 = some (ty0 k)) (hnm : ∀ a, a < N → ∀ b, b < N → a ≠ b → (T a).2.1 ≠ (T b).2.1) (hfin : (T j).2.2.2 = false) (hpd : parseFieldDescriptor (T j).2.2.1 = some (.object D0)) (hds : (sg_dsc kd)[j]? = some (4, z, code)) (hlk : Cond.fieldLink own idx (T j).1 (T j).2.1 (T j).2.2.1 ∈ sg_W0 ∨ Cond.fieldLinkNest own idx (T j).1 (T j).2.1 (T j).2.2.1 host ∈ sg_WN) (hd : decode cc pc = .ok (.putfield idx, 3)) (k : sg_W p l e R s m args below meth c Q nL G A Λ σ1 cells slots (pc + 3) L S) : sg_W p l e R s m args below meth c Q nL G A Λ σ cells slots pc L ((sg_r v) :: sg_r o :: S) := by
  intro H locs ls hH hS hl
  have e0 : ((o.toNat : Nat) : Int) = o := Int.toNat_of_nonneg ho.1
  have hdc := sg_dcA_obj hkd hds
  have hok1 : sg_okS Λ o.toNat v (sg_dcA kd j) := by rw [hdc]; exact Or.inr hv
  have hok := sg_H_ok (H1 := H) hH ho hok1
  obtain ⟨hx, hb, -, -, hown, hts, -, hK, -, hN, -⟩ := id F
  have he := sg_ws_at (G := G) (σ := σ) ho.2.1
  rw [ho.2.2, sg_cell_obj hkd, e0] at he
  have hlen : j < (sg_fs Λ.2.2 (σ o) o.toNat (sg_dsc kd)).length := by rw [sg_fs_len]; exact (List.getElem?_eq_some_iff.mp hds).1
  show W p l e R s m args below meth c H locs cells slots Q (F0 m pc ls (sg_cv Λ (sg_r v) :: sg_rf Λ.2.2 o :: S.map (sg_cv Λ)))
  rw [sg_rf_ref ho.1, show sg_cv Λ (sg_r v) = .ref (Λ.2.2 v.toNat) from sg_rf_ref h0]
  have hE : (.inr (kd % 20, (sg_fs Λ.2.2 (σ o) o.toNat (sg_dsc kd)).set j (.ref (Λ.2.2 v.toNat))) : va_E) = sg_cell G.2.1 Λ.2.2 (fun b => if b = (j : Int) then v else σ o b) o.toNat kd := by
    rw [sg_cell_obj hkd, ← sg_fs_set (v := v) hds]
    exact congrArg (fun z => (Sum.inr (kd % 20, (sg_fs Λ.2.2 (σ o) o.toNat (sg_dsc kd)).set j z) : va_E)) (sg_rf_ref h0).symm
  subst hσ

  rcases hlk with hl2 | hl2
  · exact va_put hx hb hts hlay ty0 hty hnm hown hK hH.1 hH.2.1 hS o.toNat he hcl j hj (hts _ hl2) (fun _ h => h) hfin hpd rfl rfl hlen hd (fun H1 locs1 hP hD hS1 => k H1 locs1 ls (sg_H_set ho hE hP hD hok) hS1 hl)
  · exact va_putN hx hb hts hlay ty0 hty hnm hown hK hH.1 hH.2.1 hS o.toNat he hcl j hj (va_Nw.use rfl (hN _ hl2)) (fun _ h => h) hfin hpd rfl rfl hlen hd (fun H1 locs1 hP hD hS1 => k H1 locs1 ls (sg_H_set ho hE hP hD hok) hS1 hl)
theorem gw_put4F (F : sg_F p s m args meth c own cc nL ret G A) {o : Int} {kd j idx N : Nat} {C host : String} {T : u_T} (ho : sg_O Λ o kd) (hkd : kd < 100) (hcl : vwCl[kd % 20]? = some (C, T, N)) (hlay : ∀ w ∈ u_ws C T N, w ∈ sg_W0) (hj : j < N) {v : Int} {z code : Nat} {ty0 : Nat → FieldType} {D0 : String} (h0 : 0 ≤ v) (hv : sg_O Λ v code) (hσ : σ1 = sg_up σ o j v) (hty : ∀ k, k < N → parseFieldDescriptor (T k).2.2.1 = some (ty0 k)) (hnm : ∀ a, a < N → ∀ b, b < N → a ≠ b → (T a).2.1 ≠ (T b).2.1) (hfin : (T j).2.2.2 = true) (hin : meth.name = "<init>") (hdecl : (T j).1 = own) (hpd : parseFieldDescriptor (T j).2.2.1 = some (.object D0)) (hds : (sg_dsc kd)[j]? = some (4, z, code)) (hlk : Cond.fieldLink own idx (T j).1 (T j).2.1 (T j).2.2.1 ∈ sg_W0) (hd : decode cc pc = .ok (.putfield idx, 3)) (k : sg_W p l e R s m args below meth c Q nL G A Λ σ1 cells slots (pc + 3) L S) : sg_W p l e R s m args below meth c Q nL G A Λ σ cells slots pc L ((sg_r v) :: sg_r o :: S) := by
  intro H locs ls hH hS hl
  have e0 : ((o.toNat : Nat) : Int) = o := Int.toNat_of_nonneg ho.1
  have hdc := sg_dcA_obj hkd hds
  have hok1 : sg_okS Λ o.toNat v (sg_dcA kd j) := by rw [hdc]; exact Or.inr hv
  have hok := sg_H_ok (H1 := H) hH ho hok1
  obtain ⟨hx, hb, -, -, hown, hts, -, hK, -, hN, -⟩ := id F
  have he := sg_ws_at (G := G) (σ := σ) ho.2.1
  rw [ho.2.2, sg_cell_obj hkd, e0] at he
  have hlen : j < (sg_fs Λ.2.2 (σ o) o.toNat (sg_dsc kd)).length := by rw [sg_fs_len]; exact (List.getElem?_eq_some_iff.mp hds).1
  show W p l e R s m args below meth c H locs cells slots Q (F0 m pc ls (sg_cv Λ (sg_r v) :: sg_rf Λ.2.2 o :: S.map (sg_cv Λ)))
  rw [sg_rf_ref ho.1, show sg_cv Λ (sg_r v) = .ref (Λ.2.2 v.toNat) from sg_rf_ref h0]
  have hE : (.inr (kd % 20, (sg_fs Λ.2.2 (σ o) o.toNat (sg_dsc kd)).set j (.ref (Λ.2.2 v.toNat))) : va_E) = sg_cell G.2.1 Λ.2.2 (fun b => if b = (j : Int) then v else σ o b) o.toNat kd := by
    rw [sg_cell_obj hkd, ← sg_fs_set (v := v) hds]
    exact congrArg (fun z => (Sum.inr (kd % 20, (sg_fs Λ.2.2 (σ o) o.toNat (sg_dsc kd)).set j z) : va_E)) (sg_rf_ref h0).symm
  subst hσ

  exact va_putF hx hb hts hlay ty0 hty hnm hown hK hH.1 hH.2.1 hS o.toNat he hcl j hj (hts _ hlk) (fun _ h => h) hfin hin hdecl hpd rfl rfl hlen hd (fun H1 locs1 hP hD hS1 => k H1 locs1 ls (sg_H_set ho hE hP hD hok) hS1 hl)
theorem gw_put5 (F : sg_F p s m args meth c own cc nL ret G A) {o : Int} {kd j idx N : Nat} {C host : String} {T : u_T} (ho : sg_O Λ o kd) (hkd : kd < 100) (hcl : vwCl[kd % 20]? = some (C, T, N)) (hlay : ∀ w ∈ u_ws C T N, w ∈ sg_W0) (hj : j < N) {v : Int} {z code : Nat} {ty0 : Nat → FieldType} {D0 : FieldType} (hD0 : ∀ a : Nat, narrow D0 (.ref a) = .ref a ∧ fits D0 (.ref a) = true) (h0 : 0 ≤ v) (hv : v.toNat < Λ.1) (hσ : σ1 = sg_up σ o j v) (hty : ∀ k, k < N → parseFieldDescriptor (T k).2.2.1 = some (ty0 k)) (hnm : ∀ a, a < N → ∀ b, b < N → a ≠ b → (T a).2.1 ≠ (T b).2.1) (hfin : (T j).2.2.2 = false) (hpd : parseFieldDescriptor (T j).2.2.1 = some D0) (hds : (sg_dsc kd)[j]? = some (5, z, code)) (hlk : Cond.fieldLink own idx (T j).1 (T j).2.1 (T j).2.2.1 ∈ sg_W0 ∨ Cond.fieldLinkNest own idx (T j).1 (T j).2.1 (T j).2.2.1 host ∈ sg_WN) (hd : decode cc pc = .ok (.putfield idx, 3)) (k : sg_W p l e R s m args below meth c Q nL G A Λ σ1 cells slots (pc + 3) L S) : sg_W p l e R s m args below meth c Q nL G A Λ σ cells slots pc L ((sg_r v) :: sg_r o :: S) := by
  intro H locs ls hH hS hl
  have e0 : ((o.toNat : Nat) : Int) = o := Int.toNat_of_nonneg ho.1
  have hdc := sg_dcA_obj hkd hds
  have hok1 : sg_okS Λ o.toNat v (sg_dcA kd j) := by rw [hdc]; exact Or.inr ⟨h0, hv⟩
  have hok := sg_H_ok (H1 := H) hH ho hok1
  obtain ⟨hx, hb, -, -, hown, hts, -, hK, -, hN, -⟩ := id F
  have he := sg_ws_at (G := G) (σ := σ) ho.2.1
  rw [ho.2.2, sg_cell_obj hkd, e0] at he
  have hlen : j < (sg_fs Λ.2.2 (σ o) o.toNat (sg_dsc kd)).length := by rw [sg_fs_len]; exact (List.getElem?_eq_some_iff.mp hds).1
  show W p l e R s m args below meth c H locs cells slots Q (F0 m pc ls (sg_cv Λ (sg_r v) :: sg_rf Λ.2.2 o :: S.map (sg_cv Λ)))
  rw [sg_rf_ref ho.1, show sg_cv Λ (sg_r v) = .ref (Λ.2.2 v.toNat) from sg_rf_ref h0]
  have hE : (.inr (kd % 20, (sg_fs Λ.2.2 (σ o) o.toNat (sg_dsc kd)).set j (.ref (Λ.2.2 v.toNat))) : va_E) = sg_cell G.2.1 Λ.2.2 (fun b => if b = (j : Int) then v else σ o b) o.toNat kd := by
    rw [sg_cell_obj hkd, ← sg_fs_set (v := v) hds]
    exact congrArg (fun z => (Sum.inr (kd % 20, (sg_fs Λ.2.2 (σ o) o.toNat (sg_dsc kd)).set j z) : va_E)) (sg_rf_ref h0).symm
  subst hσ

  rcases hlk with hl2 | hl2
  · exact va_put hx hb hts hlay ty0 hty hnm hown hK hH.1 hH.2.1 hS o.toNat he hcl j hj (hts _ hl2) (fun _ h => h) hfin hpd (hD0 _).1 (hD0 _).2 hlen hd (fun H1 locs1 hP hD hS1 => k H1 locs1 ls (sg_H_set ho hE hP hD hok) hS1 hl)
  · exact va_putN hx hb hts hlay ty0 hty hnm hown hK hH.1 hH.2.1 hS o.toNat he hcl j hj (va_Nw.use rfl (hN _ hl2)) (fun _ h => h) hfin hpd (hD0 _).1 (hD0 _).2 hlen hd (fun H1 locs1 hP hD hS1 => k H1 locs1 ls (sg_H_set ho hE hP hD hok) hS1 hl)
theorem gw_put5F (F : sg_F p s m args meth c own cc nL ret G A) {o : Int} {kd j idx N : Nat} {C host : String} {T : u_T} (ho : sg_O Λ o kd) (hkd : kd < 100) (hcl : vwCl[kd % 20]? = some (C, T, N)) (hlay : ∀ w ∈ u_ws C T N, w ∈ sg_W0) (hj : j < N) {v : Int} {z code : Nat} {ty0 : Nat → FieldType} {D0 : FieldType} (hD0 : ∀ a : Nat, narrow D0 (.ref a) = .ref a ∧ fits D0 (.ref a) = true) (h0 : 0 ≤ v) (hv : v.toNat < Λ.1) (hσ : σ1 = sg_up σ o j v) (hty : ∀ k, k < N → parseFieldDescriptor (T k).2.2.1 = some (ty0 k)) (hnm : ∀ a, a < N → ∀ b, b < N → a ≠ b → (T a).2.1 ≠ (T b).2.1) (hfin : (T j).2.2.2 = true) (hin : meth.name = "<init>") (hdecl : (T j).1 = own) (hpd : parseFieldDescriptor (T j).2.2.1 = some D0) (hds : (sg_dsc kd)[j]? = some (5, z, code)) (hlk : Cond.fieldLink own idx (T j).1 (T j).2.1 (T j).2.2.1 ∈ sg_W0) (hd : decode cc pc = .ok (.putfield idx, 3)) (k : sg_W p l e R s m args below meth c Q nL G A Λ σ1 cells slots (pc + 3) L S) : sg_W p l e R s m args below meth c Q nL G A Λ σ cells slots pc L ((sg_r v) :: sg_r o :: S) := by
  intro H locs ls hH hS hl
  have e0 : ((o.toNat : Nat) : Int) = o := Int.toNat_of_nonneg ho.1
  have hdc := sg_dcA_obj hkd hds
  have hok1 : sg_okS Λ o.toNat v (sg_dcA kd j) := by rw [hdc]; exact Or.inr ⟨h0, hv⟩
  have hok := sg_H_ok (H1 := H) hH ho hok1
  obtain ⟨hx, hb, -, -, hown, hts, -, hK, -, hN, -⟩ := id F
  have he := sg_ws_at (G := G) (σ := σ) ho.2.1
  rw [ho.2.2, sg_cell_obj hkd, e0] at he
  have hlen : j < (sg_fs Λ.2.2 (σ o) o.toNat (sg_dsc kd)).length := by rw [sg_fs_len]; exact (List.getElem?_eq_some_iff.mp hds).1
  show W p l e R s m args below meth c H locs cells slots Q (F0 m pc ls (sg_cv Λ (sg_r v) :: sg_rf Λ.2.2 o :: S.map (sg_cv Λ)))
  rw [sg_rf_ref ho.1, show sg_cv Λ (sg_r v) = .ref (Λ.2.2 v.toNat) from sg_rf_ref h0]
  have hE : (.inr (kd % 20, (sg_fs Λ.2.2 (σ o) o.toNat (sg_dsc kd)).set j (.ref (Λ.2.2 v.toNat))) : va_E) = sg_cell G.2.1 Λ.2.2 (fun b => if b = (j : Int) then v else σ o b) o.toNat kd := by
    rw [sg_cell_obj hkd, ← sg_fs_set (v := v) hds]
    exact congrArg (fun z => (Sum.inr (kd % 20, (sg_fs Λ.2.2 (σ o) o.toNat (sg_dsc kd)).set j z) : va_E)) (sg_rf_ref h0).symm
  subst hσ

  exact va_putF hx hb hts hlay ty0 hty hnm hown hK hH.1 hH.2.1 hS o.toNat he hcl j hj (hts _ hlk) (fun _ h => h) hfin hin hdecl hpd (hD0 _).1 (hD0 _).2 hlen hd (fun H1 locs1 hP hD hS1 => k H1 locs1 ls (sg_H_set ho hE hP hD hok) hS1 hl)
theorem sg_cell_int {cy : Nat → ClassId} {ad : Nat → Nat} {f : Int → Int} {k kd : Nat} (h1 : 10000 ≤ kd) (h2 : kd < 20000) : sg_cell cy ad f k kd = .inl (cy 0, kd - 10000, .inl (fun j => Int32.ofInt (f j))) := by
  unfold sg_cell
  rw [if_neg (by omega), if_pos h2]
theorem sg_cell_bool {cy : Nat → ClassId} {ad : Nat → Nat} {f : Int → Int} {k kd : Nat} (h1 : 20000 ≤ kd) (h2 : kd < 30000) : sg_cell cy ad f k kd = .inl (cy 1, kd - 20000, .inl (fun j => Int32.ofInt (f j))) := by
  unfold sg_cell
  rw [if_neg (by omega), if_neg (by omega), if_pos h2]
theorem sg_cell_refB {cy : Nat → ClassId} {ad : Nat → Nat} {f : Int → Int} {k kd : Nat} (h1 : 30000 ≤ kd) (h2 : kd < 40000) : sg_cell cy ad f k kd = .inl (cy 2, kd - 30000, .inr (.inr (.inr (.inr (fun j => sg_ro ad (f j)))))) := by
  unfold sg_cell
  rw [if_neg (by omega), if_neg (by omega), if_neg (by omega), if_pos h2]
theorem sg_cell_refS {cy : Nat → ClassId} {ad : Nat → Nat} {f : Int → Int} {k kd : Nat} (h1 : 40000 ≤ kd) (h2 : kd < 50000) : sg_cell cy ad f k kd = .inl (cy 3, kd - 40000, .inr (.inr (.inr (.inr (fun j => sg_ro ad (f j)))))) := by
  unfold sg_cell
  rw [if_neg (by omega), if_neg (by omega), if_neg (by omega), if_neg (by omega), if_pos h2]
theorem sg_cell_long {cy : Nat → ClassId} {ad : Nat → Nat} {f : Int → Int} {k kd : Nat} (h1 : 50000 ≤ kd) : sg_cell cy ad f k kd = .inl (cy 4, kd - 50000, .inr (.inl (fun j => Int64.ofInt (f j)))) := by
  unfold sg_cell
  rw [if_neg (by omega), if_neg (by omega), if_neg (by omega), if_neg (by omega), if_neg (by omega)]
theorem sg_dcA_int {kd j : Nat} (h1 : 10000 ≤ kd) (h2 : kd < 20000) : sg_dcA kd j = (0, 0, 0) := by
  unfold sg_dcA
  rw [if_neg (by omega), if_pos h2]
theorem sg_dcA_bool {kd j : Nat} (h1 : 20000 ≤ kd) (h2 : kd < 30000) : sg_dcA kd j = (1, 0, 0) := by
  unfold sg_dcA
  rw [if_neg (by omega), if_neg (by omega), if_pos h2]
theorem sg_dcA_refB {kd j : Nat} (h1 : 30000 ≤ kd) (h2 : kd < 40000) : sg_dcA kd j = (4, 0, 1) := by
  unfold sg_dcA
  rw [if_neg (by omega), if_neg (by omega), if_neg (by omega), if_pos h2]
theorem sg_dcA_refS {kd j : Nat} (h1 : 40000 ≤ kd) (h2 : kd < 50000) : sg_dcA kd j = (4, 0, 7) := by
  unfold sg_dcA
  rw [if_neg (by omega), if_neg (by omega), if_neg (by omega), if_neg (by omega), if_pos h2]
theorem sg_dcA_long {kd j : Nat} (h1 : 50000 ≤ kd) : sg_dcA kd j = (2, 0, 0) := by
  unfold sg_dcA
  rw [if_neg (by omega), if_neg (by omega), if_neg (by omega), if_neg (by omega), if_neg (by omega)]
theorem sg_R_idx {i n : Int} (h0 : 0 ≤ i) (hn : i < n) (h : n ≤ 10000) : sg_R i := ⟨by omega, by omega⟩
theorem gw_iald (F : sg_F p s m args meth c own cc nL ret G A) {a i n : Int} (ha : sg_AN Λ a n) (h0 : 0 ≤ i) (hn : i < n) (hd : decode cc pc = .ok (.iaload, 1)) (k : sg_R (σ a i) → sg_W p l e R s m args below meth c Q nL G A Λ σ cells slots (pc + 1) L (sg_i (σ a i) :: S)) : sg_W p l e R s m args below meth c Q nL G A Λ σ cells slots pc L (sg_i i :: sg_r a :: S) := by
  intro H locs ls hH hS hl
  obtain ⟨k1, k2, k3⟩ := ha.2.2
  have e0 : ((a.toNat : Nat) : Int) = a := Int.toNat_of_nonneg ha.1
  have he := sg_ws_at (G := G) (σ := σ) ha.2.1
  rw [sg_cell_int k1 k2, e0] at he
  have hok := hH.2.2 a.toNat ha.2.1 i.toNat
  rw [sg_dcA_int k1 k2, e0, Int.toNat_of_nonneg h0] at hok
  have ri : sg_R i := ⟨by omega, by omega⟩
  show W p l e R s m args below meth c H locs cells slots Q (F0 m pc ls (.int (Int32.ofInt i) :: sg_rf Λ.2.2 a :: S.map (sg_cv Λ)))
  rw [sg_rf_ref ha.1]
  have h1 := k hok H locs ls hH hS hl
  refine va_iald F.1 F.2.1 F.2.2.2.2.2.2.2.1 hH.1 a.toNat 0 he rfl (sg_in h0 (by omega) ri) hd ?_
  rw [sg_nat ri]
  show W p l e R s m args below meth c H locs cells slots Q (F0 m (pc + 1) ls (.int (Int32.ofInt (σ a ((i.toNat : Nat) : Int))) :: S.map (sg_cv Λ)))
  rw [Int.toNat_of_nonneg h0]
  exact h1
theorem gw_zald (F : sg_F p s m args meth c own cc nL ret G A) {a i n : Int} {kd : Nat} (ha : sg_O Λ a kd) (g1 : 20000 ≤ kd) (g2 : kd < 30000) (g3 : (kd : Int) = 20000 + n) (h0 : 0 ≤ i) (hn : i < n) (hd : decode cc pc = .ok (.baload, 1)) (k : sg_B (σ a i) → sg_W p l e R s m args below meth c Q nL G A Λ σ cells slots (pc + 1) L (sg_i (σ a i) :: S)) : sg_W p l e R s m args below meth c Q nL G A Λ σ cells slots pc L (sg_i i :: sg_r a :: S) := by
  intro H locs ls hH hS hl
  have k1 := ha.2.2
  have e0 : ((a.toNat : Nat) : Int) = a := Int.toNat_of_nonneg ha.1
  have he := sg_ws_at (G := G) (σ := σ) ha.2.1
  rw [k1, sg_cell_bool g1 g2, e0] at he
  have hok := hH.2.2 a.toNat ha.2.1 i.toNat
  rw [k1, sg_dcA_bool g1 g2, e0, Int.toNat_of_nonneg h0] at hok
  have ri : sg_R i := ⟨by omega, by omega⟩
  show W p l e R s m args below meth c H locs cells slots Q (F0 m pc ls (.int (Int32.ofInt i) :: sg_rf Λ.2.2 a :: S.map (sg_cv Λ)))
  rw [sg_rf_ref ha.1]
  have h1 := k hok H locs ls hH hS hl
  refine va_zald F.1 F.2.1 F.2.2.2.2.2.2.2.1 hH.1 a.toNat 1 he rfl (sg_in h0 (by omega) ri) hd ?_
  rw [sg_nat ri]
  show W p l e R s m args below meth c H locs cells slots Q (F0 m (pc + 1) ls (.int (Int32.ofInt (σ a ((i.toNat : Nat) : Int))) :: S.map (sg_cv Λ)))
  rw [Int.toNat_of_nonneg h0]
  exact h1
theorem gw_aaldB (F : sg_F p s m args meth c own cc nL ret G A) {a i n : Int} {kd : Nat} (ha : sg_O Λ a kd) (g1 : 30000 ≤ kd) (g2 : kd < 40000) (g3 : (kd : Int) = 30000 + n) (h0 : 0 ≤ i) (hn : i < n) (hd : decode cc pc = .ok (.aaload, 1)) (k : (σ a i = -1 ∨ sg_O Λ (σ a i) 1) → sg_W p l e R s m args below meth c Q nL G A Λ σ cells slots (pc + 1) L (sg_r (σ a i) :: S)) : sg_W p l e R s m args below meth c Q nL G A Λ σ cells slots pc L (sg_i i :: sg_r a :: S) := by
  intro H locs ls hH hS hl
  have k1 := ha.2.2
  have e0 : ((a.toNat : Nat) : Int) = a := Int.toNat_of_nonneg ha.1
  have he := sg_ws_at (G := G) (σ := σ) ha.2.1
  rw [k1, sg_cell_refB g1 g2, e0] at he
  have hok := hH.2.2 a.toNat ha.2.1 i.toNat
  rw [k1, sg_dcA_refB g1 g2, e0, Int.toNat_of_nonneg h0] at hok
  have ri : sg_R i := ⟨by omega, by omega⟩
  show W p l e R s m args below meth c H locs cells slots Q (F0 m pc ls (.int (Int32.ofInt i) :: sg_rf Λ.2.2 a :: S.map (sg_cv Λ)))
  rw [sg_rf_ref ha.1]
  have h1 := k hok H locs ls hH hS hl
  refine va_aldq F.1 F.2.1 F.2.2.2.2.2.2.2.1 hH.1 a.toNat 2 he rfl (sg_in h0 (by omega) ri) hd ?_
  rw [sg_nat ri]
  show W p l e R s m args below meth c H locs cells slots Q (F0 m (pc + 1) ls (va_rf (sg_ro Λ.2.2 (σ a ((i.toNat : Nat) : Int))) :: S.map (sg_cv Λ)))
  rw [Int.toNat_of_nonneg h0]
  rw [show va_rf (sg_ro Λ.2.2 (σ a i)) = sg_rf Λ.2.2 (σ a i) by unfold sg_ro sg_rf; split <;> rfl]
  exact h1
theorem gw_aaldS (F : sg_F p s m args meth c own cc nL ret G A) {a i n : Int} {kd : Nat} (ha : sg_O Λ a kd) (g1 : 40000 ≤ kd) (g2 : kd < 50000) (g3 : (kd : Int) = 40000 + n) (h0 : 0 ≤ i) (hn : i < n) (hd : decode cc pc = .ok (.aaload, 1)) (k : (σ a i = -1 ∨ sg_O Λ (σ a i) 7) → sg_W p l e R s m args below meth c Q nL G A Λ σ cells slots (pc + 1) L (sg_r (σ a i) :: S)) : sg_W p l e R s m args below meth c Q nL G A Λ σ cells slots pc L (sg_i i :: sg_r a :: S) := by
  intro H locs ls hH hS hl
  have k1 := ha.2.2
  have e0 : ((a.toNat : Nat) : Int) = a := Int.toNat_of_nonneg ha.1
  have he := sg_ws_at (G := G) (σ := σ) ha.2.1
  rw [k1, sg_cell_refS g1 g2, e0] at he
  have hok := hH.2.2 a.toNat ha.2.1 i.toNat
  rw [k1, sg_dcA_refS g1 g2, e0, Int.toNat_of_nonneg h0] at hok
  have ri : sg_R i := ⟨by omega, by omega⟩
  show W p l e R s m args below meth c H locs cells slots Q (F0 m pc ls (.int (Int32.ofInt i) :: sg_rf Λ.2.2 a :: S.map (sg_cv Λ)))
  rw [sg_rf_ref ha.1]
  have h1 := k hok H locs ls hH hS hl
  refine va_aldq F.1 F.2.1 F.2.2.2.2.2.2.2.1 hH.1 a.toNat 3 he rfl (sg_in h0 (by omega) ri) hd ?_
  rw [sg_nat ri]
  show W p l e R s m args below meth c H locs cells slots Q (F0 m (pc + 1) ls (va_rf (sg_ro Λ.2.2 (σ a ((i.toNat : Nat) : Int))) :: S.map (sg_cv Λ)))
  rw [Int.toNat_of_nonneg h0]
  rw [show va_rf (sg_ro Λ.2.2 (σ a i)) = sg_rf Λ.2.2 (σ a i) by unfold sg_ro sg_rf; split <;> rfl]
  exact h1
theorem gw_lald (F : sg_F p s m args meth c own cc nL ret G A) {a i n : Int} {kd : Nat} (ha : sg_O Λ a kd) (g1 : 50000 ≤ kd) (g2 : kd < 60000) (g3 : (kd : Int) = 50000 + n) (h0 : 0 ≤ i) (hn : i < n) (hd : decode cc pc = .ok (.laload, 1)) (k : sg_R64 (σ a i) → sg_W p l e R s m args below meth c Q nL G A Λ σ cells slots (pc + 1) L (sg_l (σ a i) :: S)) : sg_W p l e R s m args below meth c Q nL G A Λ σ cells slots pc L (sg_i i :: sg_r a :: S) := by
  intro H locs ls hH hS hl
  have k1 := ha.2.2
  have e0 : ((a.toNat : Nat) : Int) = a := Int.toNat_of_nonneg ha.1
  have he := sg_ws_at (G := G) (σ := σ) ha.2.1
  rw [k1, sg_cell_long g1, e0] at he
  have hok := hH.2.2 a.toNat ha.2.1 i.toNat
  rw [k1, sg_dcA_long g1, e0, Int.toNat_of_nonneg h0] at hok
  have ri : sg_R i := ⟨by omega, by omega⟩
  show W p l e R s m args below meth c H locs cells slots Q (F0 m pc ls (.int (Int32.ofInt i) :: sg_rf Λ.2.2 a :: S.map (sg_cv Λ)))
  rw [sg_rf_ref ha.1]
  have h1 := k hok H locs ls hH hS hl
  refine va_lald F.1 F.2.1 F.2.2.2.2.2.2.2.1 hH.1 a.toNat 4 he rfl (sg_in h0 (by omega) ri) hd ?_
  rw [sg_nat ri]
  show W p l e R s m args below meth c H locs cells slots Q (F0 m (pc + 1) ls (.long (Int64.ofInt (σ a ((i.toNat : Nat) : Int))) :: S.map (sg_cv Λ)))
  rw [Int.toNat_of_nonneg h0]
  exact h1
theorem gw_alen (F : sg_F p s m args meth c own cc nL ret G A) {a n : Int} (ha : sg_AN Λ a n) (hd : decode cc pc = .ok (.arraylength, 1)) (k : sg_W p l e R s m args below meth c Q nL G A Λ σ cells slots (pc + 1) L (sg_i n :: S)) : sg_W p l e R s m args below meth c Q nL G A Λ σ cells slots pc L (sg_r a :: S) := by
  intro H locs ls hH hS hl
  obtain ⟨k1, k2, k3⟩ := ha.2.2
  have he := sg_ws_at (G := G) (σ := σ) ha.2.1
  rw [sg_cell_int k1 k2] at he
  show W p l e R s m args below meth c H locs cells slots Q (F0 m pc ls (sg_rf Λ.2.2 a :: S.map (sg_cv Λ)))
  rw [sg_rf_ref ha.1]
  refine va_alen F.1 F.2.1 F.2.2.2.2.2.2.2.1 hH.1 a.toNat 0 he rfl (v := Int32.ofInt n) ?_ hd (k H locs ls hH hS hl)
  rw [← Int32.ofInt_eq_ofNat]
  exact congrArg Int32.ofInt (show ((Λ.2.1 a.toNat - 10000 : Nat) : Int) = n by omega)
theorem gw_iast (F : sg_F p s m args meth c own cc nL ret G A) {a i n v : Int} (ha : sg_AN Λ a n) (h0 : 0 ≤ i) (hn : i < n) (hv : sg_R v) (hσ : σ1 = sg_up σ a i v) (hd : decode cc pc = .ok (.iastore, 1)) (k : sg_W p l e R s m args below meth c Q nL G A Λ σ1 cells slots (pc + 1) L S) : sg_W p l e R s m args below meth c Q nL G A Λ σ cells slots pc L ((sg_i v) :: sg_i i :: sg_r a :: S) := by
  intro H locs ls hH hS hl
  obtain ⟨k1, k2, k3⟩ := ha.2.2
  have e0 : ((a.toNat : Nat) : Int) = a := Int.toNat_of_nonneg ha.1
  have e1 : ((i.toNat : Nat) : Int) = i := Int.toNat_of_nonneg h0
  have he := sg_ws_at (G := G) (σ := σ) ha.2.1
  rw [sg_cell_int k1 k2, e0] at he
  have ri : sg_R i := ⟨by omega, by omega⟩
  have ho : sg_O Λ a (Λ.2.1 a.toNat) := ⟨ha.1, ha.2.1, rfl⟩
  have hok1 : sg_okS Λ a.toNat v (sg_dcA (Λ.2.1 a.toNat) i.toNat) := by rw [sg_dcA_int k1 k2]; exact hv
  have hok := sg_H_ok (H1 := H) hH ho hok1
  have hE : (.inl (G.2.1 0, Λ.2.1 a.toNat - 10000, .inl (upd (fun j => Int32.ofInt (σ a j)) i.toNat (Int32.ofInt v))) : va_E) = sg_cell G.2.1 Λ.2.2 (fun b => if b = ((i.toNat : Nat) : Int) then v else σ a b) a.toNat (Λ.2.1 a.toNat) := by
    rw [sg_cell_int k1 k2]
    congr 4
    funext q
    simp only [upd]
    by_cases hq : q = i.toNat
    · rw [if_pos hq, if_pos (by omega)]
    · rw [if_neg hq, if_neg (by omega)]
  show W p l e R s m args below meth c H locs cells slots Q (F0 m pc ls (sg_cv Λ (sg_i v) :: .int (Int32.ofInt i) :: sg_rf Λ.2.2 a :: S.map (sg_cv Λ)))
  rw [sg_rf_ref ha.1]
  refine va_iast F.1 F.2.1 F.2.2.2.2.2.2.2.1 hH.1 hH.2.1 hS a.toNat 0 he rfl (sg_in h0 (by omega) ri) hd (fun H1 locs1 hP hD hS1 => ?_)
  rw [sg_nat ri] at hP hD
  have hH1 := sg_H_set ho hE hP hD hok
  rw [e1, ← hσ] at hH1
  exact k H1 locs1 ls hH1 hS1 hl
theorem gw_zast (F : sg_F p s m args meth c own cc nL ret G A) {a i n v : Int} {kd : Nat} (ha : sg_O Λ a kd) (g1 : 20000 ≤ kd) (g2 : kd < 30000) (g3 : (kd : Int) = 20000 + n) (h0 : 0 ≤ i) (hn : i < n) (hv : sg_B v) (hσ : σ1 = sg_up σ a i v) (hd : decode cc pc = .ok (.bastore, 1)) (k : sg_W p l e R s m args below meth c Q nL G A Λ σ1 cells slots (pc + 1) L S) : sg_W p l e R s m args below meth c Q nL G A Λ σ cells slots pc L ((sg_i v) :: sg_i i :: sg_r a :: S) := by
  intro H locs ls hH hS hl
  have k3 := ha.2.2
  have k1 : 20000 ≤ Λ.2.1 a.toNat := by omega
  have k2 : Λ.2.1 a.toNat < 30000 := by omega
  have e0 : ((a.toNat : Nat) : Int) = a := Int.toNat_of_nonneg ha.1
  have e1 : ((i.toNat : Nat) : Int) = i := Int.toNat_of_nonneg h0
  have he := sg_ws_at (G := G) (σ := σ) ha.2.1
  rw [sg_cell_bool k1 k2, e0] at he
  have ri : sg_R i := ⟨by omega, by omega⟩
  have ho : sg_O Λ a (Λ.2.1 a.toNat) := ⟨ha.1, ha.2.1, rfl⟩
  have hok1 : sg_okS Λ a.toNat v (sg_dcA (Λ.2.1 a.toNat) i.toNat) := by rw [sg_dcA_bool k1 k2]; exact hv
  have hok := sg_H_ok (H1 := H) hH ho hok1
  have hE : (.inl (G.2.1 1, Λ.2.1 a.toNat - 20000, .inl (upd (fun j => Int32.ofInt (σ a j)) i.toNat (vp_nar .boolean (Int32.ofInt v)))) : va_E) = sg_cell G.2.1 Λ.2.2 (fun b => if b = ((i.toNat : Nat) : Int) then v else σ a b) a.toNat (Λ.2.1 a.toNat) := by
    rw [sg_cell_bool k1 k2]
    rw [show vp_nar .boolean (Int32.ofInt v) = Int32.ofInt v by rcases sg_bool hv with h | h <;> rw [h] <;> rfl]
    congr 4
    funext q
    simp only [upd]
    by_cases hq : q = i.toNat
    · rw [if_pos hq, if_pos (by omega)]
    · rw [if_neg hq, if_neg (by omega)]
  show W p l e R s m args below meth c H locs cells slots Q (F0 m pc ls (sg_cv Λ (sg_i v) :: .int (Int32.ofInt i) :: sg_rf Λ.2.2 a :: S.map (sg_cv Λ)))
  rw [sg_rf_ref ha.1]
  refine va_zast F.1 F.2.1 F.2.2.2.2.2.2.2.1 hH.1 hH.2.1 hS a.toNat 1 he rfl (sg_in h0 (by omega) ri) hd (fun H1 locs1 hP hD hS1 => ?_)
  rw [sg_nat ri] at hP hD
  have hH1 := sg_H_set ho hE hP hD hok
  rw [e1, ← hσ] at hH1
  exact k H1 locs1 ls hH1 hS1 hl
theorem gw_last (F : sg_F p s m args meth c own cc nL ret G A) {a i n v : Int} {kd : Nat} (ha : sg_O Λ a kd) (g1 : 50000 ≤ kd) (g2 : kd < 60000) (g3 : (kd : Int) = 50000 + n) (h0 : 0 ≤ i) (hn : i < n) (hv : sg_R64 v) (hσ : σ1 = sg_up σ a i v) (hd : decode cc pc = .ok (.lastore, 1)) (k : sg_W p l e R s m args below meth c Q nL G A Λ σ1 cells slots (pc + 1) L S) : sg_W p l e R s m args below meth c Q nL G A Λ σ cells slots pc L ((sg_l v) :: sg_i i :: sg_r a :: S) := by
  intro H locs ls hH hS hl
  have k3 := ha.2.2
  have k1 : 50000 ≤ Λ.2.1 a.toNat := by omega
  have e0 : ((a.toNat : Nat) : Int) = a := Int.toNat_of_nonneg ha.1
  have e1 : ((i.toNat : Nat) : Int) = i := Int.toNat_of_nonneg h0
  have he := sg_ws_at (G := G) (σ := σ) ha.2.1
  rw [sg_cell_long k1, e0] at he
  have ri : sg_R i := ⟨by omega, by omega⟩
  have ho : sg_O Λ a (Λ.2.1 a.toNat) := ⟨ha.1, ha.2.1, rfl⟩
  have hok1 : sg_okS Λ a.toNat v (sg_dcA (Λ.2.1 a.toNat) i.toNat) := by rw [sg_dcA_long k1]; exact hv
  have hok := sg_H_ok (H1 := H) hH ho hok1
  have hE : (.inl (G.2.1 4, Λ.2.1 a.toNat - 50000, .inr (.inl (vp_updL (fun j => Int64.ofInt (σ a j)) i.toNat (Int64.ofInt v)))) : va_E) = sg_cell G.2.1 Λ.2.2 (fun b => if b = ((i.toNat : Nat) : Int) then v else σ a b) a.toNat (Λ.2.1 a.toNat) := by
    rw [sg_cell_long k1]
    congr 5
    funext q
    simp only [vp_updL]
    by_cases hq : q = i.toNat
    · rw [if_pos hq, if_pos (by omega)]
    · rw [if_neg hq, if_neg (by omega)]
  show W p l e R s m args below meth c H locs cells slots Q (F0 m pc ls (sg_cv Λ (sg_l v) :: .int (Int32.ofInt i) :: sg_rf Λ.2.2 a :: S.map (sg_cv Λ)))
  rw [sg_rf_ref ha.1]
  refine va_last F.1 F.2.1 F.2.2.2.2.2.2.2.1 hH.1 hH.2.1 hS a.toNat 4 he rfl (sg_in h0 (by omega) ri) hd (fun H1 locs1 hP hD hS1 => ?_)
  rw [sg_nat ri] at hP hD
  have hH1 := sg_H_set ho hE hP hD hok
  rw [e1, ← hσ] at hH1
  exact k H1 locs1 ls hH1 hS1 hl
theorem gw_aastB (F : sg_F p s m args meth c own cc nL ret G A) {a i n v : Int} {kd : Nat} (ha : sg_O Λ a kd) (g1 : 30000 ≤ kd) (g2 : kd < 40000) (g3 : (kd : Int) = 30000 + n) (h0 : 0 ≤ i) (hn : i < n) (hv : sg_O Λ v 1) (hσ : σ1 = sg_up σ a i v) (hd : decode cc pc = .ok (.aastore, 1)) (k : sg_W p l e R s m args below meth c Q nL G A Λ σ1 cells slots (pc + 1) L S) : sg_W p l e R s m args below meth c Q nL G A Λ σ cells slots pc L ((sg_r v) :: sg_i i :: sg_r a :: S) := by
  intro H locs ls hH hS hl
  have k3 := ha.2.2
  have k1 : 30000 ≤ Λ.2.1 a.toNat := by omega
  have k2 : Λ.2.1 a.toNat < 40000 := by omega
  have hev := sg_ws_at (G := G) (σ := σ) hv.2.1
  rw [hv.2.2, sg_cell_obj (by omega)] at hev
  have e0 : ((a.toNat : Nat) : Int) = a := Int.toNat_of_nonneg ha.1
  have e1 : ((i.toNat : Nat) : Int) = i := Int.toNat_of_nonneg h0
  have he := sg_ws_at (G := G) (σ := σ) ha.2.1
  rw [sg_cell_refB k1 k2, e0] at he
  have ri : sg_R i := ⟨by omega, by omega⟩
  have ho : sg_O Λ a (Λ.2.1 a.toNat) := ⟨ha.1, ha.2.1, rfl⟩
  have hok1 : sg_okS Λ a.toNat v (sg_dcA (Λ.2.1 a.toNat) i.toNat) := by rw [sg_dcA_refB k1 k2]; exact Or.inr hv
  have hok := sg_H_ok (H1 := H) hH ho hok1
  have hE : (.inl (G.2.1 2, Λ.2.1 a.toNat - 30000, .inr (.inr (.inr (.inr (va_up (fun j => sg_ro Λ.2.2 (σ a j)) i.toNat (some (Λ.2.2 v.toNat))))))) : va_E) = sg_cell G.2.1 Λ.2.2 (fun b => if b = ((i.toNat : Nat) : Int) then v else σ a b) a.toNat (Λ.2.1 a.toNat) := by
    rw [sg_cell_refB k1 k2]
    congr 8
    funext q
    simp only [va_up]
    by_cases hq : q = i.toNat
    · rw [if_pos hq, if_pos (by omega)]
      unfold sg_ro
      rw [if_neg (by have := hv.1; omega)]
    · rw [if_neg hq, if_neg (by omega)]
  show W p l e R s m args below meth c H locs cells slots Q (F0 m pc ls (sg_cv Λ (sg_r v) :: .int (Int32.ofInt i) :: sg_rf Λ.2.2 a :: S.map (sg_cv Λ)))
  rw [sg_rf_ref ha.1, show sg_cv Λ (sg_r v) = .ref (Λ.2.2 v.toNat) from sg_rf_ref hv.1]
  refine va_astq F.1 F.2.1 F.2.2.2.2.2.2.2.1 hH.1 hH.2.1 hS a.toNat 2 v.toNat 1 he (r := (RX1, TX1, 7)) rfl hev rfl (sg_in h0 (by omega) ri) hd (fun H1 locs1 hP hD hS1 => ?_)
  rw [sg_nat ri] at hP hD
  have hH1 := sg_H_set ho hE hP hD hok
  rw [e1, ← hσ] at hH1
  exact k H1 locs1 ls hH1 hS1 hl
theorem gw_aastS (F : sg_F p s m args meth c own cc nL ret G A) {a i n v : Int} {kd : Nat} (ha : sg_O Λ a kd) (g1 : 40000 ≤ kd) (g2 : kd < 50000) (g3 : (kd : Int) = 40000 + n) (h0 : 0 ≤ i) (hn : i < n) (hv : sg_O Λ v 7) (hσ : σ1 = sg_up σ a i v) (hd : decode cc pc = .ok (.aastore, 1)) (k : sg_W p l e R s m args below meth c Q nL G A Λ σ1 cells slots (pc + 1) L S) : sg_W p l e R s m args below meth c Q nL G A Λ σ cells slots pc L ((sg_r v) :: sg_i i :: sg_r a :: S) := by
  intro H locs ls hH hS hl
  have k3 := ha.2.2
  have k1 : 40000 ≤ Λ.2.1 a.toNat := by omega
  have k2 : Λ.2.1 a.toNat < 50000 := by omega
  have hev := sg_ws_at (G := G) (σ := σ) hv.2.1
  rw [hv.2.2, sg_cell_obj (by omega)] at hev
  have e0 : ((a.toNat : Nat) : Int) = a := Int.toNat_of_nonneg ha.1
  have e1 : ((i.toNat : Nat) : Int) = i := Int.toNat_of_nonneg h0
  have he := sg_ws_at (G := G) (σ := σ) ha.2.1
  rw [sg_cell_refS k1 k2, e0] at he
  have ri : sg_R i := ⟨by omega, by omega⟩
  have ho : sg_O Λ a (Λ.2.1 a.toNat) := ⟨ha.1, ha.2.1, rfl⟩
  have hok1 : sg_okS Λ a.toNat v (sg_dcA (Λ.2.1 a.toNat) i.toNat) := by rw [sg_dcA_refS k1 k2]; exact Or.inr hv
  have hok := sg_H_ok (H1 := H) hH ho hok1
  have hE : (.inl (G.2.1 3, Λ.2.1 a.toNat - 40000, .inr (.inr (.inr (.inr (va_up (fun j => sg_ro Λ.2.2 (σ a j)) i.toNat (some (Λ.2.2 v.toNat))))))) : va_E) = sg_cell G.2.1 Λ.2.2 (fun b => if b = ((i.toNat : Nat) : Int) then v else σ a b) a.toNat (Λ.2.1 a.toNat) := by
    rw [sg_cell_refS k1 k2]
    congr 8
    funext q
    simp only [va_up]
    by_cases hq : q = i.toNat
    · rw [if_pos hq, if_pos (by omega)]
      unfold sg_ro
      rw [if_neg (by have := hv.1; omega)]
    · rw [if_neg hq, if_neg (by omega)]
  show W p l e R s m args below meth c H locs cells slots Q (F0 m pc ls (sg_cv Λ (sg_r v) :: .int (Int32.ofInt i) :: sg_rf Λ.2.2 a :: S.map (sg_cv Λ)))
  rw [sg_rf_ref ha.1, show sg_cv Λ (sg_r v) = .ref (Λ.2.2 v.toNat) from sg_rf_ref hv.1]
  refine va_astq F.1 F.2.1 F.2.2.2.2.2.2.2.1 hH.1 hH.2.1 hS a.toNat 3 v.toNat 7 he (r := (RX7, TX7, 5)) rfl hev rfl (sg_in h0 (by omega) ri) hd (fun H1 locs1 hP hD hS1 => ?_)
  rw [sg_nat ri] at hP hD
  have hH1 := sg_H_set ho hE hP hD hok
  rw [e1, ← hσ] at hH1
  exact k H1 locs1 ls hH1 hS1 hl
end SGP
