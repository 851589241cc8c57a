section SGC
def sg_rv (ret : Option FieldType) (Λ : sg_L) (v : sg_V) : Option Value := match ret with
  | none => none
  | some _ => some (sg_cv Λ v)
def sg_pushr (ret : Option FieldType) (v : sg_V) (S : List sg_V) : List sg_V := match ret with
  | none => S
  | some _ => v :: S
def sg_Q (ret : Option FieldType) (G : sg_G) (Λ : sg_L) (sz : Nat) (K : sg_V → sg_L → sg_M → Prop) : Array Value → State → Outcome → State → Prop := fun _ st oc t => (∃ (v : sg_V) (Λ' : sg_L) (σ' : sg_M), oc = .returned (sg_rv ret Λ' v) ∧ K v Λ' σ' ∧ sg_E Λ Λ' ∧ sg_H G (sg_A Λ sz) Λ' σ' t.heap) ∧ va_F (sg_A Λ sz) st t
def sg_Pc (G : sg_G) (Λ : sg_L) (σ : sg_M) (sz : Nat) (as : List sg_V) : Array Value → State → Prop := va_Pc (as.map (sg_cv Λ)) (fun U => U.heap.size = sz ∧ sg_H G (fun _ => True) Λ σ U.heap ∧ va_K G.1 vwCl (sg_tys G) U ∧ sg_N U ∧ sg_Y G (sg_A Λ sz) U U.heap)
def sg_rm (d mc ms : Nat) : Room := { frames := d, cells := mc, slots := ms, locals := 40 * d }
/-- a method's contract: from the logical heap and these arguments it returns, and K holds of answer and heap -/
def sg_C (l : Launch) (G : sg_G) (y : MethodName) (cc : ByteArray) (nL : Nat) (ret : Option FieldType) (d mc ms : Nat) (Λ : sg_L) (σ : sg_M) (as : List sg_V) (K : sg_V → sg_L → sg_M → Prop) : Prop :=
  ∀ sz : Nat, Met l y (.code y cc nL ret :: sg_W0) (sg_rm d mc ms) (sg_Pc G Λ σ sz as) (sg_Q ret G Λ sz K) mc ms (sg_A Λ sz)
theorem sg_goodW {y : MethodName} {cc : ByteArray} {nL : Nat} {ret : Option FieldType} (h : Cond.code y cc nL ret ∈ sg_W0) : GoodIn sg_W0 (.code y cc nL ret :: sg_W0) := by
  intro w hw
  rcases List.mem_cons.mp hw with rfl | hw
  · exact ⟨h, (sg_W0_ok _ h).2⟩
  · exact ⟨hw, (sg_W0_ok _ hw).2⟩
theorem sg_E.rf {Λ : sg_L} : sg_E Λ Λ := ⟨Nat.le_refl _, fun _ _ => rfl⟩
theorem sg_E.tr {a b c : sg_L} (h1 : sg_E a b) (h2 : sg_E b c) : sg_E a c := ⟨Nat.le_trans h1.1 h2.1, fun k hk => by rw [h2.2 k (Nat.lt_of_lt_of_le hk h1.1), h1.2 k hk]⟩
def sg_vok (Λ : sg_L) : sg_V → Prop
  | .inr (.inr (.inl r)) => r.toNat < Λ.1 ∨ r < 0
  | _ => True
theorem sg_cv_E {Λ Λ' : sg_L} (hE : sg_E Λ Λ') {v : sg_V} (hv : sg_vok Λ v) : sg_cv Λ' v = sg_cv Λ v := by
  rcases v with x | x | r | a
  · rfl
  · rfl
  · rcases hv with h | h
    · show sg_rf _ _ = sg_rf _ _
      unfold sg_rf
      rw [hE.2 _ h]
    · show sg_rf _ _ = sg_rf _ _
      rw [sg_rf_null h, sg_rf_null h]
  · rfl
def sg_len : List sg_V → Nat
  | [] => 0
  | v :: vs => sg_cat v + sg_len vs
def sg_args : Nat → List sg_V → List (Nat × sg_V)
  | _, [] => []
  | i, v :: vs => (i, v) :: sg_args (if sg_cat v = 2 then i + 2 else i + 1) vs
theorem sg_len_ok {Λ : sg_L} (as : List sg_V) : (lg_sl (as.map (sg_cv Λ))).length = sg_len as := by
  induction as with
  | nil => rfl
  | cons v vs ih =>
    have h := sg_cat_ok (Λ := Λ) v
    unfold lg_sl at ih ⊢
    rw [List.map_cons, List.flatMap_cons, List.length_append, ih, h]
    show _ = sg_cat v + sg_len vs
    rcases v with x | x | r | a <;> simp [sg_cat]
theorem sg_args_ok {Λ : sg_L} (as : List sg_V) : ∀ i : Nat, lv_args i (as.map (sg_cv Λ)) = (sg_args i as).map (fun q => (q.1, sg_cv Λ q.2)) := by
  induction as with
  | nil => intro i; rfl
  | cons v vs ih =>
    intro i
    rw [List.map_cons]
    unfold lv_args sg_args
    rw [List.map_cons, sg_cat_ok, ih]
theorem sg_H_A {G : sg_G} {A B : Nat → Prop} {Λ : sg_L} {σ : sg_M} {H : Heap} (h : sg_H G A Λ σ H) (hB : ∀ k : Nat, k < Λ.1 → B (Λ.2.2 k)) : sg_H G B Λ σ H := by
  refine ⟨h.1, ⟨h.2.1.1, fun k q hk => ?_⟩, h.2.2⟩
  obtain ⟨hl, rfl⟩ := sg_ws_get hk
  exact hB k hl
theorem sg_H_in {G : sg_G} {A : Nat → Prop} {Λ : sg_L} {σ : sg_M} {H : Heap} (h : sg_H G A Λ σ H) {k : Nat} (hk : k < Λ.1) : A (Λ.2.2 k) := h.2.1.2 k _ (sg_ws_at hk)
theorem sg_blind {G : sg_G} {Λ : sg_L} {σ : sg_M} {sz : Nat} {as : List sg_V} : FrameBlind (sg_Pc G Λ σ sz as) := by
  intro a U g mk q
  obtain ⟨q0, q1, q2, q3, q4, q5⟩ := q
  exact ⟨q0, q1, q2, va_K.moved (u := U) (U := U.calling g mk a) (Vm.Alike.refl U.vm) q3, sg_N.same (s := U) (U := U.calling g mk a) rfl q4, sg_Y.same (s := U) (U := U.calling g mk a) rfl q5⟩
variable {p : Program} {l : Launch} {e : Env} {R : Room} {s : State} {m : MethodId} {args : Array Value} {below : List Frame} {meth : Method} {c : Code} {Q : State → Prop} {G : sg_G} {A : Nat → Prop} {Λ : sg_L} {σ σ1 : sg_M} {cells slots : Nat} {own : String} {cc : ByteArray} {nL : Nat} {ret : Option FieldType} {pc : Nat} {L L' : List (Nat × sg_V)} {S : List sg_V}
theorem sg_pre (F : sg_F p s m args meth c own cc nL ret G A) {as : List sg_V} {H : Heap} {locs : List Loc} (hH : sg_H G A Λ σ H) (hS : va_S A s.heap H locs) : ∀ U : State, U.heap = H → s.WarmedH U.vm → sg_Pc G Λ σ H.size as (as.map (sg_cv Λ)).toArray U := by
  obtain ⟨hx, hb, -, -, hown, hts, -, hK, hA, hN, hY⟩ := F
  intro U hU hW
  have hsub : ∀ q, sg_A Λ H.size q → A q := by
    intro q hq
    rcases hq with ⟨k, hk, rfl⟩ | hq
    · exact sg_H_in hH hk
    · exact hA q (Nat.le_trans hS.1 hq)
  refine ⟨rfl, by rw [hU], by rw [hU]; exact sg_H_A hH (fun _ _ => trivial), va_K.moved hW.alike hK, hN.warm hW, ?_⟩
  rw [hU]
  exact ((hY.kept hS.2.1).narrow hsub).warm hW
theorem sg_sub (F : sg_F p s m args meth c own cc nL ret G A) {H : Heap} {locs : List Loc} (hH : sg_H G A Λ σ H) (hS : va_S A s.heap H locs) : ∀ q, sg_A Λ H.size q → A q := by
  intro q hq
  rcases hq with ⟨k, hk, rfl⟩ | hq
  · exact sg_H_in hH hk
  · exact F.2.2.2.2.2.2.2.2.1 q (Nat.le_trans hS.1 hq)
/-- behind a call -/
theorem sg_run (F : sg_F p s m args meth c own cc nL ret G A) {rt : Option FieldType} {K : sg_V → sg_L → sg_M → Prop} {mc ms : Nat} {st : List sg_V} {a : Array Value}
    (hr : ∀ (H : Heap) (locs : List Loc) (ls : Array Slot), sg_H G A Λ σ H → va_S A s.heap H locs → lv_has ls nL (L.map (fun q => (q.1, sg_cv Λ q.2))) → va_Run p l e R s m args below meth c H locs cells slots mc ms (F0 m pc ls (st.map (sg_cv Λ))) (S.map (sg_cv Λ)) (sg_Q rt G Λ H.size K a) (sg_A Λ H.size))
    (hvS : ∀ v Λ' σ', K v Λ' σ' → sg_E Λ Λ' → ∀ w ∈ S, sg_cv Λ' w = sg_cv Λ w) (hvL : ∀ v Λ' σ', K v Λ' σ' → sg_E Λ Λ' → ∀ q ∈ L, sg_cv Λ' q.2 = sg_cv Λ q.2)
    (kk : ∀ (v : sg_V) (Λ' : sg_L) (σ' : sg_M), K v Λ' σ' → sg_E Λ Λ' → sg_W p l e R s m args below meth c Q nL G A Λ' σ' (cells + mc) (slots + ms) (pc + 3) L (sg_pushr rt v S)) : sg_W p l e R s m args below meth c Q nL G A Λ σ cells slots pc L st := by
  intro H locs ls hH hS hl T hT X
  have hsub := sg_sub F hH hS
  obtain ⟨v, st₀, t, T', Lc, h0, X', hL, e1, e2, ⟨⟨v', Λ', σ', hv, hK, hE, hH'⟩, hz, hk⟩, stp⟩ := hr H locs ls hH hS hl T hT X
  rw [h0] at hz hk
  have hS' : va_S A s.heap T'.heap (locs ++ Lc) := by
    refine ⟨Nat.le_trans hS.1 (by rw [e1]; exact hz), fun q h1 h2 => ?_, fun q hq => ?_⟩
    · rw [e1, hk q (Nat.lt_of_lt_of_le h1 hS.1) (fun z => h2 (hsub q z))]
      exact hS.2.1 q h1 h2
    · rcases List.mem_append.mp hq with h | h
      · exact hS.2.2 q h
      · exact hsub _ (hL q h)
  have hH2 : sg_H G A Λ' σ' T'.heap := by
    rw [e1]
    exact sg_H_A hH' (fun k hk2 => hsub _ (sg_H_in hH' hk2))
  have hmap : L.map (fun q => (q.1, sg_cv Λ' q.2)) = L.map (fun q => (q.1, sg_cv Λ q.2)) := List.map_congr_left (fun q hq => by rw [hvL v' Λ' σ' hK hE q hq])
  have hmapS : S.map (sg_cv Λ') = S.map (sg_cv Λ) := List.map_congr_left (fun w hw => hvS v' Λ' σ' hK hE w hw)
  obtain ⟨t2, a1, b1⟩ := kk v' Λ' σ' hK hE T'.heap (locs ++ Lc) ls hH2 hS' (by rw [hmap]; exact hl) T' rfl X'
  refine ⟨t2, stp t2 ?_, b1⟩
  cases hv
  cases rt with
  | none => exact hmapS ▸ a1
  | some ty =>
    have e3 : (sg_pushr (some ty) v' S).map (sg_cv Λ') = sg_cv Λ' v' :: S.map (sg_cv Λ) := by
      show sg_cv Λ' v' :: S.map (sg_cv Λ') = _
      rw [hmapS]
    rw [e3] at a1
    exact a1
theorem sg_callB (F : sg_F p s m args meth c own cc nL ret G A) {y : MethodName} {bytes : ByteArray} {maxL idx n d mc ms : Nat} {rt : Option FieldType} (hcode : Cond.code y bytes maxL rt ∈ sg_W0) (hini : Cond.initialized y.cls ∈ sg_W0) (hlink : Cond.methodLink own idx y ∈ sg_W0)
    (hd : y.cls ≠ "java/lang/invoke/MethodHandle" ∧ y.cls ≠ "java/lang/invoke/VarHandle" ∧ (parseMethodDescriptor y.desc).map (fun d => d.parameters.length) = some n) (hR : d + 1 ≤ R.frames ∧ 8 + (maxL + 11) + 40 * d ≤ R.locals) : CallB R s args own idx y bytes maxL rt (.code y bytes maxL rt :: sg_W0) (sg_rm d mc ms) mc ms n :=
  callB_of n F.2.2.2.2.2.1 (sg_goodW hcode) rfl rfl rfl (F.2.2.2.2.2.1 _ hini) (F.2.2.2.2.2.1 _ hlink) hd hR
theorem sg_callN (F : sg_F p s m args meth c own cc nL ret G A) {y : MethodName} {bytes : ByteArray} {maxL idx n d mc ms : Nat} {host : String} {rt : Option FieldType} (hcode : Cond.code y bytes maxL rt ∈ sg_W0) (hini : Cond.initialized y.cls ∈ sg_W0) (hlink : Cond.methodLinkNest own idx y host ∈ sg_WN)
    (hd : y.cls ≠ "java/lang/invoke/MethodHandle" ∧ y.cls ≠ "java/lang/invoke/VarHandle" ∧ (parseMethodDescriptor y.desc).map (fun d => d.parameters.length) = some n) (hR : d + 1 ≤ R.frames ∧ 8 + (maxL + 11) + 40 * d ≤ R.locals) : va_CN R s args own idx y host bytes maxL rt (.code y bytes maxL rt :: sg_W0) (sg_rm d mc ms) mc ms n :=
  va_cnB n F.2.2.2.2.2.1 (sg_goodW hcode) rfl rfl rfl (F.2.2.2.2.2.2.2.2.2.1 _ hlink) (F.2.2.2.2.2.1 _ hini) hd hR
def sg_cats : List sg_V → Nat
  | [] => 0
  | v :: vs => sg_cat v + sg_cats vs
theorem sg_cats_ok {Λ : sg_L} (S : List sg_V) : ((S.map (sg_cv Λ)).map fun v => v.category).sum = sg_cats S := by
  induction S with
  | nil => rfl
  | cons v vs ih => rw [List.map_cons, List.map_cons, List.sum_cons, ih, sg_cat_ok]; rfl
theorem sg_room {m : MethodId} {pc : Nat} {ls : Array Slot} {rest : List Value} (h : sg_cats S ≤ 8) : 2 * (F0 m pc ls rest).monitorRoom + ((S.map (sg_cv Λ)).map fun v => v.category).sum ≤ 8 := lv_room (by rw [sg_cats_ok]; exact h)
theorem sg_stack {As S : List sg_V} : (As.reverse ++ S).map (sg_cv Λ) = (As.map (sg_cv Λ)).reverse ++ S.map (sg_cv Λ) := by rw [List.map_append, List.map_reverse]
theorem gw_callS (F : sg_F p s m args meth c own cc nL ret G A) {y : MethodName} {bytes : ByteArray} {maxL idx n d mc ms : Nat} {rt : Option FieldType} {As st : List sg_V} {K : sg_V → sg_L → sg_M → Prop} (hC : sg_C l G y bytes maxL rt d mc ms Λ σ As K) (hcode : Cond.code y bytes maxL rt ∈ sg_W0) (hini : Cond.initialized y.cls ∈ sg_W0) (hlink : Cond.methodLink own idx y ∈ sg_W0) (hst : Cond.static y ∈ sg_W0)
    (hcd : y.cls ≠ "java/lang/invoke/MethodHandle" ∧ y.cls ≠ "java/lang/invoke/VarHandle" ∧ (parseMethodDescriptor y.desc).map (fun d => d.parameters.length) = some n) (hR : d + 1 ≤ R.frames ∧ 8 + (maxL + 11) + 40 * d ≤ R.locals) (hn : As.length = n) (hs : As.reverse ++ S = st) (hcs : sg_cats S ≤ 8) (hf : cells + mc ≤ R.cells ∧ slots + ms ≤ R.slots) (hd : decode cc pc = .ok (.invokestatic idx, 3))
    (hvS : ∀ v Λ' σ', K v Λ' σ' → sg_E Λ Λ' → ∀ w ∈ S, sg_cv Λ' w = sg_cv Λ w) (hvL : ∀ v Λ' σ', K v Λ' σ' → sg_E Λ Λ' → ∀ q ∈ L, sg_cv Λ' q.2 = sg_cv Λ q.2)
    (kk : ∀ (v : sg_V) (Λ' : sg_L) (σ' : sg_M), K v Λ' σ' → sg_E Λ Λ' → sg_W p l e R s m args below meth c Q nL G A Λ' σ' (cells + mc) (slots + ms) (pc + 3) L (sg_pushr rt v S)) : sg_W p l e R s m args below meth c Q nL G A Λ σ cells slots pc L st := by
  subst hs
  refine sg_run F (a := (As.map (sg_cv Λ)).toArray) (fun H locs ls hH hS hl => ?_) hvS hvL kk
  exact va_runS ⟨F.1, F.2.1, F.2.2.1, F.2.2.2.2.1, F.2.2.2.2.2.1⟩ (hC H.size) ⟨sg_callB F hcode hini hlink hcd hR, F.2.2.2.2.2.1 _ hst⟩ ⟨sg_blind, sg_pre F hH hS⟩ rfl (by rw [List.length_map]; exact hn) hl.1 sg_stack (sg_room hcs) hd hf
theorem gw_callSN (F : sg_F p s m args meth c own cc nL ret G A) {y : MethodName} {bytes : ByteArray} {maxL idx n d mc ms : Nat} {host : String} {rt : Option FieldType} {As st : List sg_V} {K : sg_V → sg_L → sg_M → Prop} (hC : sg_C l G y bytes maxL rt d mc ms Λ σ As K) (hcode : Cond.code y bytes maxL rt ∈ sg_W0) (hini : Cond.initialized y.cls ∈ sg_W0) (hlink : Cond.methodLinkNest own idx y host ∈ sg_WN) (hst : Cond.static y ∈ sg_W0)
    (hcd : y.cls ≠ "java/lang/invoke/MethodHandle" ∧ y.cls ≠ "java/lang/invoke/VarHandle" ∧ (parseMethodDescriptor y.desc).map (fun d => d.parameters.length) = some n) (hR : d + 1 ≤ R.frames ∧ 8 + (maxL + 11) + 40 * d ≤ R.locals) (hn : As.length = n) (hs : As.reverse ++ S = st) (hcs : sg_cats S ≤ 8) (hf : cells + mc ≤ R.cells ∧ slots + ms ≤ R.slots) (hd : decode cc pc = .ok (.invokestatic idx, 3))
    (hvS : ∀ v Λ' σ', K v Λ' σ' → sg_E Λ Λ' → ∀ w ∈ S, sg_cv Λ' w = sg_cv Λ w) (hvL : ∀ v Λ' σ', K v Λ' σ' → sg_E Λ Λ' → ∀ q ∈ L, sg_cv Λ' q.2 = sg_cv Λ q.2)
    (kk : ∀ (v : sg_V) (Λ' : sg_L) (σ' : sg_M), K v Λ' σ' → sg_E Λ Λ' → sg_W p l e R s m args below meth c Q nL G A Λ' σ' (cells + mc) (slots + ms) (pc + 3) L (sg_pushr rt v S)) : sg_W p l e R s m args below meth c Q nL G A Λ σ cells slots pc L st := by
  subst hs
  refine sg_run F (a := (As.map (sg_cv Λ)).toArray) (fun H locs ls hH hS hl => ?_) hvS hvL kk
  exact va_runSN ⟨F.1, F.2.1, F.2.2.1, F.2.2.2.2.1, F.2.2.2.2.2.1⟩ (hC H.size) ⟨sg_callN F hcode hini hlink hcd hR, F.2.2.2.2.2.1 _ hst, trivial⟩ ⟨sg_blind, sg_pre F hH hS⟩ rfl (by rw [List.length_map]; exact hn) hl.1 sg_stack (sg_room hcs) hd hf
theorem sg_recv (F : sg_F p s m args meth c own cc nL ret G A) {b : Int} {kd N : Nat} {C : String} {T : u_T} (hb : sg_O Λ b kd) (hkd : kd < 100) (hcl : vwCl[kd % 20]? = some (C, T, N)) {H : Heap} (hH : sg_H G A Λ σ H) : ∃ cell : Cell, H[Λ.2.2 b.toNat]? = some cell ∧ cell.vm.isStatics = false ∧ s.vm.findClass C = some cell.cls := by
  have he := sg_ws_at (G := G) (σ := σ) hb.2.1
  rw [hb.2.2, sg_cell_obj hkd] at he
  exact va_recv F.2.2.2.2.2.2.2.1 hH.1 hcl he
theorem gw_callV (F : sg_F p s m args meth c own cc nL ret G A) {y : MethodName} {bytes : ByteArray} {maxL idx n d mc ms : Nat} {rt : Option FieldType} {b : Int} {kd N : Nat} {C : String} {T : u_T} {As st : List sg_V} {K : sg_V → sg_L → sg_M → Prop} (hC : sg_C l G y bytes maxL rt d mc ms Λ σ (sg_r b :: As) K) (hb : sg_O Λ b kd) (hkd : kd < 100) (hcl : vwCl[kd % 20]? = some (C, T, N)) (hcode : Cond.code y bytes maxL rt ∈ sg_W0) (hini : Cond.initialized y.cls ∈ sg_W0) (hlink : Cond.methodLink own idx y ∈ sg_W0) (hin : Cond.instanceMethod y ∈ sg_W0) (hsel : Cond.selects C y y ∈ sg_W0)
    (hcd : y.cls ≠ "java/lang/invoke/MethodHandle" ∧ y.cls ≠ "java/lang/invoke/VarHandle" ∧ (parseMethodDescriptor y.desc).map (fun d => d.parameters.length) = some n) (hR : d + 1 ≤ R.frames ∧ 8 + (maxL + 11) + 40 * d ≤ R.locals) (hn : As.length = n) (hs : As.reverse ++ (sg_r b :: S) = st) (hcs : sg_cats S ≤ 8) (hf : cells + mc ≤ R.cells ∧ slots + ms ≤ R.slots) (hd : decode cc pc = .ok (.invokevirtual idx, 3))
    (hvS : ∀ v Λ' σ', K v Λ' σ' → sg_E Λ Λ' → ∀ w ∈ S, sg_cv Λ' w = sg_cv Λ w) (hvL : ∀ v Λ' σ', K v Λ' σ' → sg_E Λ Λ' → ∀ q ∈ L, sg_cv Λ' q.2 = sg_cv Λ q.2)
    (kk : ∀ (v : sg_V) (Λ' : sg_L) (σ' : sg_M), K v Λ' σ' → sg_E Λ Λ' → sg_W p l e R s m args below meth c Q nL G A Λ' σ' (cells + mc) (slots + ms) (pc + 3) L (sg_pushr rt v S)) : sg_W p l e R s m args below meth c Q nL G A Λ σ cells slots pc L st := by
  subst hs
  refine sg_run F (a := (Value.ref (Λ.2.2 b.toNat) :: As.map (sg_cv Λ)).toArray) (fun H locs ls hH hS hl => ?_) hvS hvL kk
  have hpr := sg_pre F (as := sg_r b :: As) hH hS
  have eb : sg_cv Λ (sg_r b) = .ref (Λ.2.2 b.toNat) := sg_rf_ref hb.1
  rw [List.map_cons, eb] at hpr
  exact va_runV (meth := meth) (l := l) (R := R) (e := e) (below := below) (locs := locs) (cells := cells) (slots := slots) (g := F0 m pc ls ((As.reverse ++ (sg_r b :: S)).map (sg_cv Λ))) (rest := S.map (sg_cv Λ)) ⟨F.1, F.2.1, F.2.2.1, F.2.2.2.2.1, F.2.2.2.2.2.1⟩ (hC H.size) ⟨sg_callB F hcode hini hlink hcd hR, F.2.2.2.2.2.1 _ hin, F.2.2.2.2.2.1 _ hsel⟩ (b := Λ.2.2 b.toNat) (As := As.map (sg_cv Λ)) ⟨sg_blind, sg_recv F hb hkd hcl hH, hpr⟩ rfl (by rw [List.length_map]; exact hn) hl.1 (by show (As.reverse ++ (sg_r b :: S)).map (sg_cv Λ) = _; rw [List.map_append, List.map_reverse, List.map_cons, eb]) (sg_room hcs) hd hf
theorem gw_callVN (F : sg_F p s m args meth c own cc nL ret G A) {y : MethodName} {bytes : ByteArray} {maxL idx n d mc ms : Nat} {host : String} {rt : Option FieldType} {b : Int} {kd N : Nat} {C : String} {T : u_T} {As st : List sg_V} {K : sg_V → sg_L → sg_M → Prop} (hC : sg_C l G y bytes maxL rt d mc ms Λ σ (sg_r b :: As) K) (hb : sg_O Λ b kd) (hkd : kd < 100) (hcl : vwCl[kd % 20]? = some (C, T, N)) (hcode : Cond.code y bytes maxL rt ∈ sg_W0) (hini : Cond.initialized y.cls ∈ sg_W0) (hlink : Cond.methodLinkNest own idx y host ∈ sg_WN) (hin : Cond.instanceMethod y ∈ sg_W0) (hsel : Cond.selects C y y ∈ sg_W0)
    (hcd : y.cls ≠ "java/lang/invoke/MethodHandle" ∧ y.cls ≠ "java/lang/invoke/VarHandle" ∧ (parseMethodDescriptor y.desc).map (fun d => d.parameters.length) = some n) (hR : d + 1 ≤ R.frames ∧ 8 + (maxL + 11) + 40 * d ≤ R.locals) (hn : As.length = n) (hs : As.reverse ++ (sg_r b :: S) = st) (hcs : sg_cats S ≤ 8) (hf : cells + mc ≤ R.cells ∧ slots + ms ≤ R.slots) (hd : decode cc pc = .ok (.invokevirtual idx, 3))
    (hvS : ∀ v Λ' σ', K v Λ' σ' → sg_E Λ Λ' → ∀ w ∈ S, sg_cv Λ' w = sg_cv Λ w) (hvL : ∀ v Λ' σ', K v Λ' σ' → sg_E Λ Λ' → ∀ q ∈ L, sg_cv Λ' q.2 = sg_cv Λ q.2)
    (kk : ∀ (v : sg_V) (Λ' : sg_L) (σ' : sg_M), K v Λ' σ' → sg_E Λ Λ' → sg_W p l e R s m args below meth c Q nL G A Λ' σ' (cells + mc) (slots + ms) (pc + 3) L (sg_pushr rt v S)) : sg_W p l e R s m args below meth c Q nL G A Λ σ cells slots pc L st := by
  subst hs
  refine sg_run F (a := (Value.ref (Λ.2.2 b.toNat) :: As.map (sg_cv Λ)).toArray) (fun H locs ls hH hS hl => ?_) hvS hvL kk
  have hpr := sg_pre F (as := sg_r b :: As) hH hS
  have eb : sg_cv Λ (sg_r b) = .ref (Λ.2.2 b.toNat) := sg_rf_ref hb.1
  rw [List.map_cons, eb] at hpr
  exact va_runVN (meth := meth) (l := l) (R := R) (e := e) (below := below) (locs := locs) (cells := cells) (slots := slots) (g := F0 m pc ls ((As.reverse ++ (sg_r b :: S)).map (sg_cv Λ))) (rest := S.map (sg_cv Λ)) ⟨F.1, F.2.1, F.2.2.1, F.2.2.2.2.1, F.2.2.2.2.2.1⟩ (hC H.size) ⟨sg_callN F hcode hini hlink hcd hR, F.2.2.2.2.2.1 _ hin, F.2.2.2.2.2.1 _ hsel⟩ (b := Λ.2.2 b.toNat) (As := As.map (sg_cv Λ)) ⟨sg_blind, sg_recv F hb hkd hcl hH, hpr⟩ rfl (by rw [List.length_map]; exact hn) hl.1 (by show (As.reverse ++ (sg_r b :: S)).map (sg_cv Λ) = _; rw [List.map_append, List.map_reverse, List.map_cons, eb]) (sg_room hcs) hd hf
theorem gw_callI (F : sg_F p s m args meth c own cc nL ret G A) {y : MethodName} {bytes : ByteArray} {maxL idx n d mc ms : Nat} {b : Int} {As st : List sg_V} {K : sg_V → sg_L → sg_M → Prop} (hC : sg_C l G y bytes maxL none d mc ms Λ σ (sg_r b :: As) K) (hb : 0 ≤ b) (hcode : Cond.code y bytes maxL none ∈ sg_W0) (hini : Cond.initialized y.cls ∈ sg_W0) (hlink : Cond.methodLink own idx y ∈ sg_W0) (hin : Cond.instanceMethod y ∈ sg_W0) (hnm : y.name = "<init>")
    (hcd : y.cls ≠ "java/lang/invoke/MethodHandle" ∧ y.cls ≠ "java/lang/invoke/VarHandle" ∧ (parseMethodDescriptor y.desc).map (fun d => d.parameters.length) = some n) (hR : d + 1 ≤ R.frames ∧ 8 + (maxL + 11) + 40 * d ≤ R.locals) (hn : As.length = n) (hs : As.reverse ++ (sg_r b :: S) = st) (hcs : sg_cats S ≤ 8) (hf : cells + mc ≤ R.cells ∧ slots + ms ≤ R.slots) (hd : decode cc pc = .ok (.invokespecial idx, 3))
    (hvS : ∀ v Λ' σ', K v Λ' σ' → sg_E Λ Λ' → ∀ w ∈ S, sg_cv Λ' w = sg_cv Λ w) (hvL : ∀ v Λ' σ', K v Λ' σ' → sg_E Λ Λ' → ∀ q ∈ L, sg_cv Λ' q.2 = sg_cv Λ q.2)
    (kk : ∀ (v : sg_V) (Λ' : sg_L) (σ' : sg_M), K v Λ' σ' → sg_E Λ Λ' → sg_W p l e R s m args below meth c Q nL G A Λ' σ' (cells + mc) (slots + ms) (pc + 3) L S) : sg_W p l e R s m args below meth c Q nL G A Λ σ cells slots pc L st := by
  subst hs
  refine sg_run F (a := (Value.ref (Λ.2.2 b.toNat) :: As.map (sg_cv Λ)).toArray) (rt := none) (fun H locs ls hH hS hl => ?_) hvS hvL kk
  have hpr := sg_pre F (as := sg_r b :: As) hH hS
  have eb : sg_cv Λ (sg_r b) = .ref (Λ.2.2 b.toNat) := sg_rf_ref hb
  rw [List.map_cons, eb] at hpr
  exact va_runI (meth := meth) (l := l) (R := R) (e := e) (below := below) (locs := locs) (cells := cells) (slots := slots) (g := F0 m pc ls ((As.reverse ++ (sg_r b :: S)).map (sg_cv Λ))) (rest := S.map (sg_cv Λ)) ⟨F.1, F.2.1, F.2.2.1, F.2.2.2.2.1, F.2.2.2.2.2.1⟩ (hC H.size) ⟨sg_callB F hcode hini hlink hcd hR, hnm, F.2.2.2.2.2.1 _ hin⟩ (b := Λ.2.2 b.toNat) (As := As.map (sg_cv Λ)) ⟨sg_blind, hpr⟩ rfl (by rw [List.length_map]; exact hn) hl.1 (by show (As.reverse ++ (sg_r b :: S)).map (sg_cv Λ) = _; rw [List.map_append, List.map_reverse, List.map_cons, eb]) (sg_room hcs) hd hf
theorem gw_callIN (F : sg_F p s m args meth c own cc nL ret G A) {y : MethodName} {bytes : ByteArray} {maxL idx n d mc ms : Nat} {host : String} {b : Int} {As st : List sg_V} {K : sg_V → sg_L → sg_M → Prop} (hC : sg_C l G y bytes maxL none d mc ms Λ σ (sg_r b :: As) K) (hb : 0 ≤ b) (hcode : Cond.code y bytes maxL none ∈ sg_W0) (hini : Cond.initialized y.cls ∈ sg_W0) (hlink : Cond.methodLinkNest own idx y host ∈ sg_WN) (hin : Cond.instanceMethod y ∈ sg_W0) (hnm : y.name = "<init>")
    (hcd : y.cls ≠ "java/lang/invoke/MethodHandle" ∧ y.cls ≠ "java/lang/invoke/VarHandle" ∧ (parseMethodDescriptor y.desc).map (fun d => d.parameters.length) = some n) (hR : d + 1 ≤ R.frames ∧ 8 + (maxL + 11) + 40 * d ≤ R.locals) (hn : As.length = n) (hs : As.reverse ++ (sg_r b :: S) = st) (hcs : sg_cats S ≤ 8) (hf : cells + mc ≤ R.cells ∧ slots + ms ≤ R.slots) (hd : decode cc pc = .ok (.invokespecial idx, 3))
    (hvS : ∀ v Λ' σ', K v Λ' σ' → sg_E Λ Λ' → ∀ w ∈ S, sg_cv Λ' w = sg_cv Λ w) (hvL : ∀ v Λ' σ', K v Λ' σ' → sg_E Λ Λ' → ∀ q ∈ L, sg_cv Λ' q.2 = sg_cv Λ q.2)
    (kk : ∀ (v : sg_V) (Λ' : sg_L) (σ' : sg_M), K v Λ' σ' → sg_E Λ Λ' → sg_W p l e R s m args below meth c Q nL G A Λ' σ' (cells + mc) (slots + ms) (pc + 3) L S) : sg_W p l e R s m args below meth c Q nL G A Λ σ cells slots pc L st := by
  subst hs
  refine sg_run F (a := (Value.ref (Λ.2.2 b.toNat) :: As.map (sg_cv Λ)).toArray) (rt := none) (fun H locs ls hH hS hl => ?_) hvS hvL kk
  have hpr := sg_pre F (as := sg_r b :: As) hH hS
  have eb : sg_cv Λ (sg_r b) = .ref (Λ.2.2 b.toNat) := sg_rf_ref hb
  rw [List.map_cons, eb] at hpr
  exact va_runIN (meth := meth) (l := l) (R := R) (e := e) (below := below) (locs := locs) (cells := cells) (slots := slots) (g := F0 m pc ls ((As.reverse ++ (sg_r b :: S)).map (sg_cv Λ))) (rest := S.map (sg_cv Λ)) ⟨F.1, F.2.1, F.2.2.1, F.2.2.2.2.1, F.2.2.2.2.2.1⟩ (hC H.size) ⟨sg_callN F hcode hini hlink hcd hR, hnm, F.2.2.2.2.2.1 _ hin⟩ (b := Λ.2.2 b.toNat) (As := As.map (sg_cv Λ)) ⟨sg_blind, hpr⟩ rfl (by rw [List.length_map]; exact hn) hl.1 (by show (As.reverse ++ (sg_r b :: S)).map (sg_cv Λ) = _; rw [List.map_append, List.map_reverse, List.map_cons, eb]) (sg_room hcs) hd hf
/-- a method's body -/
theorem sg_body {y : MethodName} {d mc ms : Nat} {as : List sg_V} {K : sg_V → sg_L → sg_M → Prop} (hy : plainName y.cls = true) (hlen : sg_len as ≤ nL)
    (body : ∀ (p : Program) (e : Env) (s : State) (m : MethodId) (args : Array Value) (below : List Frame) (meth : Method) (c : Code), sg_F p s m args meth c y.cls cc nL ret G (sg_A Λ s.heap.size) → meth.name = y.name → sg_W p l e (sg_rm d mc ms) s m args below meth c (MQ below (sg_Q ret G Λ s.heap.size K) args s mc ms (sg_A Λ s.heap.size)) nL G (sg_A Λ s.heap.size) Λ σ 0 0 0 (sg_args 0 as) []) : sg_C l G y cc nL ret d mc ms Λ σ as K := by
  intro sz
  refine Met.ofW (cc := cc) (maxL := nL) (ret := ret) hy rfl ?_
  intro p e s m args below meth c s₁ B hml hv
  obtain ⟨rfl, rfl, hH, hK, hN, hY⟩ := hv
  have hts := atoms_spec (ws := .code y cc nL ret :: sg_W0) B.pre
  have hown : s.vm.findClass y.cls = some m.cls := findClass_of_methodNamed B.named
  have F : sg_F p s m (as.map (sg_cv Λ)).toArray meth c y.cls cc nL ret G (sg_A Λ s.heap.size) := ⟨B.exec, B.bytes, hml, B.returns, hown, fun w hw => hts w (List.mem_cons_of_mem _ hw), B.notSynchronized, hK, fun q hq => Or.inr hq, hN, hY⟩
  have hl := lv_entry (as.map (sg_cv Λ)) (n := nL) (by rw [sg_len_ok]; exact hlen)
  rw [lg_entry_eq]
  rw [sg_args_ok] at hl
  exact body p e s m _ below meth c F (name_of_methodNamed B.named B.method).1 s.heap [] _ (sg_H_A hH (fun k hk => Or.inl ⟨k, hk, rfl⟩)) va_S.rf hl
theorem sg_fin {A0 : Nat → Prop} {K : sg_V → sg_L → sg_M → Prop} {Λ0 : sg_L} {H : Heap} {locs : List Loc} {t : State} {v : sg_V} (hA0 : A0 = sg_A Λ0 s.heap.size) (hH : sg_H G A0 Λ σ H) (hS : va_S A0 s.heap H locs) (hK : K v Λ σ) (hE : sg_E Λ0 Λ) (ht : t.heap = H) : sg_Q ret G Λ0 s.heap.size K args s (.returned (sg_rv ret Λ v)) t := by
  subst hA0
  exact ⟨⟨v, Λ, σ, rfl, hK, hE, by rw [ht]; exact hH⟩, hS.F ht⟩
theorem gw_iret (F : sg_F p s m args meth c own cc nL (some .int) G A) {K : sg_V → sg_L → sg_M → Prop} {Λ0 : sg_L} {mc ms : Nat} {x : Int} (hA : A = sg_A Λ0 s.heap.size) (hK : K (sg_i x) Λ σ) (hE : sg_E Λ0 Λ) (hc : cells ≤ mc) (hs : slots ≤ ms) (hd : decode cc pc = .ok (.ireturn, 1)) : sg_W p l e R s m args below meth c (MQ below (sg_Q (some .int) G Λ0 s.heap.size K) args s mc ms (sg_A Λ0 s.heap.size)) nL G A Λ σ cells slots pc L [sg_i x] := by
  intro H locs ls hH hS hl
  subst hA
  refine W.widen hc hs ?_
  exact W.iret (v := Int32.ofInt x) F.1 F.2.1 F.2.2.2.1 (fun t ht _ => sg_fin rfl hH hS hK hE ht) hS.2.2 hd F.2.2.2.2.2.2.1
theorem gw_zret (F : sg_F p s m args meth c own cc nL (some .boolean) G A) {K : sg_V → sg_L → sg_M → Prop} {Λ0 : sg_L} {mc ms : Nat} {x : Int} (hA : A = sg_A Λ0 s.heap.size) (hx : sg_B x) (hK : K (sg_i x) Λ σ) (hE : sg_E Λ0 Λ) (hc : cells ≤ mc) (hs : slots ≤ ms) (hd : decode cc pc = .ok (.ireturn, 1)) : sg_W p l e R s m args below meth c (MQ below (sg_Q (some .boolean) G Λ0 s.heap.size K) args s mc ms (sg_A Λ0 s.heap.size)) nL G A Λ σ cells slots pc L [sg_i x] := by
  intro H locs ls hH hS hl
  subst hA
  refine W.widen hc hs ?_
  exact W.zret (v := Int32.ofInt x) F.1 F.2.1 F.2.2.2.1 (by first | exact sg_narZ hx | (rcases sg_bool hx with h | h <;> rw [h] <;> rfl)) (fun t ht _ => sg_fin rfl hH hS hK hE ht) hS.2.2 hd F.2.2.2.2.2.2.1
theorem gw_lret (F : sg_F p s m args meth c own cc nL (some .long) G A) {K : sg_V → sg_L → sg_M → Prop} {Λ0 : sg_L} {mc ms : Nat} {x : Int} (hA : A = sg_A Λ0 s.heap.size) (hK : K (sg_l x) Λ σ) (hE : sg_E Λ0 Λ) (hc : cells ≤ mc) (hs : slots ≤ ms) (hd : decode cc pc = .ok (.lreturn, 1)) : sg_W p l e R s m args below meth c (MQ below (sg_Q (some .long) G Λ0 s.heap.size K) args s mc ms (sg_A Λ0 s.heap.size)) nL G A Λ σ cells slots pc L [sg_l x] := by
  intro H locs ls hH hS hl
  subst hA
  refine W.widen hc hs ?_
  exact W.lret (v := Int64.ofInt x) F.1 F.2.1 F.2.2.2.1 (fun t ht _ => sg_fin rfl hH hS hK hE ht) hS.2.2 hd F.2.2.2.2.2.2.1
theorem gw_vret (F : sg_F p s m args meth c own cc nL none G A) {K : sg_V → sg_L → sg_M → Prop} {Λ0 : sg_L} {mc ms : Nat} (hA : A = sg_A Λ0 s.heap.size) (hK : K (sg_i 0) Λ σ) (hE : sg_E Λ0 Λ) (hc : cells ≤ mc) (hs : slots ≤ ms) (hd : decode cc pc = .ok (.return_, 1)) : sg_W p l e R s m args below meth c (MQ below (sg_Q none G Λ0 s.heap.size K) args s mc ms (sg_A Λ0 s.heap.size)) nL G A Λ σ cells slots pc L [] := by
  intro H locs ls hH hS hl
  subst hA
  refine W.widen hc hs ?_
  exact W.vret F.1 F.2.1 F.2.2.2.1 (fun t ht _ => sg_fin (v := sg_i 0) rfl hH hS hK hE ht) hS.2.2 hd F.2.2.2.2.2.2.1
end SGC
