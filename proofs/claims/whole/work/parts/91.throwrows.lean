section SGTH
variable {p : Program} {l : Launch} {e : Env} {R : Room} {s : State} {m : MethodId} {args : Array Value} {below : List Frame} {meth : Method} {c : Code} {Q : State → Prop} {G : sg_G} {A : Nat → Prop} {Λ : sg_L} {σ σ1 : sg_M} {cells slots : Nat} {own : String} {cc : ByteArray} {nL : Nat} {ret : Option FieldType} {pc : Nat} {L L' : List (Nat × sg_V)} {S : List sg_V}
def sg_XC (G : sg_G) (Λ : sg_L) (σ : sg_M) (sz : Nat) (T : Prop) : String → State → State → Prop := fun E st t => E = "java/util/NoSuchElementException" ∧ T ∧ sg_H G (sg_A Λ sz) Λ σ t.heap ∧ va_F (sg_A Λ sz) st t
/-- a contract of a method that returns, or throws and has written nothing then -/
def sg_CX (l : Launch) (G : sg_G) (y : MethodName) (cc : ByteArray) (nL : Nat) (ret : Option FieldType) (d mc ms : Nat) (Λ : sg_L) (σ : sg_M) (as : List sg_V) (K : sg_V → sg_L → sg_M → Prop) (T : Prop) : Prop :=
  ∀ sz : Nat, vx_Met l y (.code y cc nL ret :: sg_W0) (sg_rm d mc ms) (sg_Pc G Λ σ sz as) (sg_Q ret G Λ sz K) (sg_XC G Λ σ sz T) mc ms (sg_A Λ sz)
theorem sg_WN_use {w : Cond} (h : w ∈ sg_WN) {U : State} {a : Array Value} (hz : va_Nw w U) : w.before a U = true := by
  have h2 := (List.mem_filter.mp h).2
  cases w <;> first | exact va_Nw.use rfl hz | cases h2 | (rename_i ty; cases ty <;> first | exact hz | cases h2)
def sg_nse : String := "java/util/NoSuchElementException"
def sq_at : List Cond := sg_atX RX11 151 "java/util/NoSuchElementException" 13 sg_rx "java/lang/RuntimeException" ["java/lang/Exception"]
theorem sg_at_is : sq_at = [19, 334, 343, 345, 348, 350, 335, 336, 29, 30, 337, 342, 346, 366, 324, 367, 326, 368, 328, 338, 340, 330, 362, 363, 365, 330, 353, 354, 355, 356, 316, 356, 357, 358, 359, 318, 359, 360, 361, 362, 320, 352, 313, 321, 322, 323, 325, 327, 329, 333, 332, 331].filterMap (fun i => (tables_1_1 ++ tables_1_5)[i]?) := by rfl
theorem sg_at_mem : ∀ w ∈ sq_at, w ∈ tables_1 := by
  intro w hw
  rw [sg_at_is] at hw
  obtain ⟨i, -, hi⟩ := List.mem_filterMap.mp hw
  have hm := List.mem_of_getElem? hi
  rcases List.mem_append.mp hm with h | h
  · exact sg_mt1 h
  · exact sg_mt5 h
theorem sg_at_nest : (sq_at.all fun w => goodWord w || sg_nest w) = true := by decide +kernel
theorem sg_hat (F : sg_F p s m args meth c own cc nL ret G A) : ∀ w ∈ sq_at, w.before args s = true := by
  intro w hw
  have h1 := sg_at_mem w hw
  have h2 := List.all_eq_true.mp sg_at_nest w hw
  by_cases g : goodWord w = true
  · exact F.2.2.2.2.2.1 w (List.mem_filter.mpr ⟨List.mem_append_right _ h1, g⟩)
  · have g2 : sg_nest w = true := by
      simp only [Bool.or_eq_true] at h2
      exact h2.resolve_left g
    have h3 : w ∈ sg_WN := List.mem_filter.mpr ⟨h1, g2⟩
    exact sg_WN_use h3 (F.2.2.2.2.2.2.2.2.2.1 w h3)
theorem sg_hgood : ∀ w ∈ Cond.classLink RX11 147 "java/util/NoSuchElementException" :: Cond.initialized "java/util/NoSuchElementException" :: sq_at, vx_ot w = true := by
  have h : (Cond.classLink RX11 147 "java/util/NoSuchElementException" :: Cond.initialized "java/util/NoSuchElementException" :: sq_at).all vx_ot = true := by decide +kernel
  exact fun w hw => List.all_eq_true.mp h w hw
theorem sg_rx0 : decode sg_rx 0 = .ok (.aload_n 0, 1) := by decide +kernel
theorem sg_rx1 : decode sg_rx 1 = .ok (.aload_n 1, 1) := by decide +kernel
theorem sg_rx2 : decode sg_rx 2 = .ok (.invokespecial 13, 3) := by decide +kernel
theorem sg_rx5 : decode sg_rx 5 = .ok (.return_, 1) := by decide +kernel
theorem gx_ret {Qc : Array Value → State → Outcome → State → Prop} {XC : String → State → State → Prop} {mc ms : Nat} {free : Addr → Prop} (k : sg_W p l e R s m args below meth c (MQ below Qc args s mc ms free) nL G A Λ σ cells slots pc L S) : sg_W p l e R s m args below meth c (vx_MQ below Qc XC args s mc ms free) nL G A Λ σ cells slots pc L S := fun H locs ls hH hS hl => vx_ret (k H locs ls hH hS hl)
theorem gx_throw (F : sg_F p s m args meth c RX11 cc nL ret G (sg_A Λ s.heap.size)) (hl0 : l.stackTraces = false) (htab : ∀ x ∈ c.exceptionTable.toList, False) {mc ms i is : Nat} {tx : String} {K : sg_V → sg_L → sg_M → Prop} {T : Prop} (hstr : sg_strs[i]? = some (RX11, is, tx)) (hcl : Cond.classLink RX11 147 "java/util/NoSuchElementException" ∈ sg_W0) (hini : Cond.initialized "java/util/NoSuchElementException" ∈ sg_W0)
    (d0 : decode cc pc = .ok (.new 147, 3)) (d3 : decode cc (pc + 3) = .ok (.dup, 1)) (d4 : decode cc (pc + 4) = .ok (.ldc is, 2)) (d6 : decode cc (pc + 6) = .ok (.invokespecial 151, 3)) (d9 : decode cc (pc + 9) = .ok (.athrow, 1)) (hcs : sg_cats S ≤ 8) (hR : 5 < R.frames ∧ 100 ≤ R.locals) (hRc : cells + 1 ≤ R.cells) (hRs : slots + 6 ≤ R.slots) (hc : cells + 1 ≤ mc) (hs : slots + 6 ≤ ms) (hT : T) :
    sg_W p l e R s m args below meth c (vx_MQ below (sg_Q ret G Λ s.heap.size K) (sg_XC G Λ σ s.heap.size T) args s mc ms (sg_A Λ s.heap.size)) nL G (sg_A Λ s.heap.size) Λ σ cells slots pc L S := by
  intro H locs ls hH hS hl
  obtain ⟨hx, hb, hml, -, hown, hts, hlocks, hK, hA, hN, hY⟩ := id F
  refine sg_throwX (ik := 147) (is := is) (ic := 151) (ix := 13) (rx := sg_rx) (Y1 := "java/lang/RuntimeException") (names := ["java/lang/Exception"]) (A := sg_A Λ s.heap.size) hx hb hl0 hown (by decide +kernel) (by decide +kernel) sg_rx0 sg_rx1 sg_rx2 sg_rx5 (by decide +kernel) (hts _ hcl) (hts _ hini) (hY.2.2.2.2.2 i _ hstr) (sg_hat F) sg_hgood hY.2.2.2.1 hY.2.2.2.2.1 hS (by rw [hml]; exact hl.1) d0 d3 d4 d6 d9 (fun x hx => (htab x hx).elim) (by show 1 + 4 < _; omega) (by rw [sg_cats_ok]; show _ + (13 * (1 + 2) + 43) ≤ _; omega) hRc hRs hlocks ?_ hS.2.2 hc hs
  intro t hal hsz hk
  refine ⟨rfl, hT, ?_, ⟨Nat.le_trans hS.1 hsz, fun q h1 h2 => by rw [hk q (Nat.lt_of_lt_of_le h1 hS.1)]; exact hS.2.1 q h1 h2⟩⟩
  refine ⟨fun k q hq => (hH.1 k q hq).kept (hk _ (hH.1 k q hq).lt), hH.2.1, hH.2.2⟩
theorem sg_bodyX {y : MethodName} {d mc ms : Nat} {as : List sg_V} {K : sg_V → sg_L → sg_M → Prop} {T : Prop} (hy : plainName y.cls = true) (hlen : sg_len as ≤ nL)
    (body : ∀ (p : Program) (e : Env) (s : State) (m : MethodId) (args : Array Value) (below : List Frame) (meth : Method) (c : Code), sg_F p s m args meth c y.cls cc nL ret G (sg_A Λ s.heap.size) → (∀ x ∈ c.exceptionTable.toList, False) → sg_W p l e (sg_rm d mc ms) s m args below meth c (vx_MQ below (sg_Q ret G Λ s.heap.size K) (sg_XC G Λ σ s.heap.size T) args s mc ms (sg_A Λ s.heap.size)) nL G (sg_A Λ s.heap.size) Λ σ 0 0 0 (sg_args 0 as) []) : sg_CX l G y cc nL ret d mc ms Λ σ as K T := by
  intro sz
  refine vx_ofW (cc := cc) (maxL := nL) (ret := ret) hy rfl ?_
  intro p e s m args below meth c s₁ B hml htab hv
  obtain ⟨rfl, rfl, hH, hK, hN, hY⟩ := hv
  have hts := atoms_spec (ws := .code y cc nL ret :: sg_W0) B.pre
  have hown : s.vm.findClass y.cls = some m.cls := findClass_of_methodNamed B.named
  have F : sg_F p s m (as.map (sg_cv Λ)).toArray meth c y.cls cc nL ret G (sg_A Λ s.heap.size) := ⟨B.exec, B.bytes, hml, B.returns, hown, fun w hw => hts w (List.mem_cons_of_mem _ hw), B.notSynchronized, hK, fun q hq => Or.inr hq, hN, hY⟩
  have hl := lv_entry (as.map (sg_cv Λ)) (n := nL) (by rw [sg_len_ok]; exact hlen)
  rw [lg_entry_eq]
  rw [sg_args_ok] at hl
  exact body p e s m _ below meth c F htab s.heap [] _ (sg_H_A hH (fun k hk => Or.inl ⟨k, hk, rfl⟩)) va_S.rf hl
/-- a method with a table -/
theorem sg_bodyH {y : MethodName} {hh : List (Nat × Nat × Nat × Nat)} {d mc ms : Nat} {as : List sg_V} {K : sg_V → sg_L → sg_M → Prop} (hy : plainName y.cls = true) (hlen : sg_len as ≤ nL)
    (body : ∀ (p : Program) (e : Env) (s : State) (m : MethodId) (args : Array Value) (below : List Frame) (meth : Method) (c : Code), sg_F p s m args meth c y.cls cc nL ret G (sg_A Λ s.heap.size) → c.exceptionTable.toList = tableOf hh → sg_W p l e (sg_rm d mc ms) s m args below meth c (MQ below (sg_Q ret G Λ s.heap.size K) args s mc ms (sg_A Λ s.heap.size)) nL G (sg_A Λ s.heap.size) Λ σ 0 0 0 (sg_args 0 as) []) : ∀ sz : Nat, Met l y (.codeWith y cc nL ret hh :: sg_W0) (sg_rm d mc ms) (sg_Pc G Λ σ sz as) (sg_Q ret G Λ sz K) mc ms (sg_A Λ sz) := by
  intro sz
  refine va_MetW (hh := hh) (cc := cc) (maxL := nL) (ret := ret) hy rfl ?_
  intro p e s m args below meth c s₁ B hml hv
  obtain ⟨rfl, rfl, hH, hK, hN, hY⟩ := hv
  have hts := atoms_spec (ws := .codeWith y cc nL ret hh :: sg_W0) B.pre
  have htab := vx_table (x := y) B (hts _ List.mem_cons_self)
  have hown : s.vm.findClass y.cls = some m.cls := findClass_of_methodNamed B.named
  have F : sg_F p s m (as.map (sg_cv Λ)).toArray meth c y.cls cc nL ret G (sg_A Λ s.heap.size) := ⟨B.exec, B.bytes, hml, B.returns, hown, fun w hw => hts w (List.mem_cons_of_mem _ hw), B.notSynchronized, hK, fun q hq => Or.inr hq, hN, hY⟩
  have hl := lv_entry (as.map (sg_cv Λ)) (n := nL) (by rw [sg_len_ok]; exact hlen)
  rw [lg_entry_eq]
  rw [sg_args_ok] at hl
  exact body p e s m _ below meth c F htab s.heap [] _ (sg_H_A hH (fun k hk => Or.inl ⟨k, hk, rfl⟩)) va_S.rf hl
/-- a call of a method that returns or throws, in a method that catches -/
theorem gx_call (F : sg_F p s m args meth c own cc nL ret G A) {y : MethodName} {bytes : ByteArray} {maxL idx n d mc ms : Nat} {rt : Option FieldType} {b : Int} {kd N : Nat} {C : String} {Tb : u_T} {As st : List sg_V} {K : sg_V → sg_L → sg_M → Prop} {T : Prop} (hC : sg_CX l G y bytes maxL rt d mc ms Λ σ (sg_r b :: As) K T) (hb : sg_O Λ b kd) (hkd : kd < 100) (hcl : vwCl[kd % 20]? = some (C, Tb, N)) (hcode : Cond.code y bytes maxL rt ∈ sg_W0) (hini : Cond.initialized y.cls ∈ sg_W0) (hlink : Cond.methodLink own idx y ∈ sg_W0) (hin : Cond.instanceMethod y ∈ sg_W0) (hsel : Cond.selects C y y ∈ sg_W0)
    (hcd : y.cls ≠ "java/lang/invoke/MethodHandle" ∧ y.cls ≠ "java/lang/invoke/VarHandle" ∧ (parseMethodDescriptor y.desc).map (fun d => d.parameters.length) = some n) (hR : d + 1 ≤ R.frames ∧ 8 + (maxL + 11) + 40 * d ≤ R.locals) (hn : As.length = n) (hs : As.reverse ++ (sg_r b :: S) = st) (hcs : sg_cats S ≤ 8) (hf : cells + mc ≤ R.cells ∧ slots + ms ≤ R.slots) (hd : decode cc pc = .ok (.invokevirtual idx, 3))
    (hK : ∀ v Λ' σ', K v Λ' σ' → Λ' = Λ) {x : ExceptionTableEntry} (htab : c.exceptionTable.toList = [x]) (hx : covers x pc = true) (h0 : x.catchType ≠ 0) (hcat : Cond.classLink own x.catchType "java/util/NoSuchElementException" ∈ sg_W0)
    (kx : T → ∀ q : Nat, sg_W p l e R s m args below meth c Q nL G A Λ σ (cells + mc) (slots + ms) x.handlerPc L [sg_a q])
    (kk : ∀ (v : sg_V) (σ' : sg_M), K v Λ σ' → sg_W p l e R s m args below meth c Q nL G A Λ σ' (cells + mc) (slots + ms) (pc + 3) L (sg_pushr rt v S)) : sg_W p l e R s m args below meth c Q nL G A Λ σ cells slots pc L st := by
  subst hs
  intro H locs ls hH hS hl T0 hT X
  have hsub := sg_sub F hH hS
  have hpr := sg_pre F (as := sg_r b :: As) hH hS
  have eb : sg_cv Λ (sg_r b) = .ref (Λ.2.2 b.toNat) := sg_rf_ref hb.1
  rw [List.map_cons, eb] at hpr
  have keep : ∀ (T' t st₀ : State) (Lc : List Loc), st₀.heap = H → T'.heap = t.heap → (∀ q ∈ Lc, sg_A Λ H.size q.base) → va_F (sg_A Λ H.size) st₀ t → va_S A s.heap T'.heap (locs ++ Lc) := by
    intro T' t st₀ Lc h0 e1 hL hF
    obtain ⟨hz, hk⟩ := hF
    rw [h0] at hz hk
    refine ⟨Nat.le_trans hS.1 (by rw [e1]; exact hz), fun q h1 h2 => ?_, fun q hq => ?_⟩
    · rw [e1, hk q (Nat.lt_of_lt_of_le h1 hS.1) (fun z => h2 (hsub q z))]
      exact hS.2.1 q h1 h2
    · rcases List.mem_append.mp hq with h | h
      · exact hS.2.2 q h
      · exact hsub _ (hL q h)
  rcases vx_runV (meth := meth) (l := l) (R := R) (e := e) (below := below) (locs := locs) (cells := cells) (slots := slots) (g := F0 m pc ls ((As.reverse ++ (sg_r b :: S)).map (sg_cv Λ))) (rest := S.map (sg_cv Λ)) ⟨F.1, F.2.1, F.2.2.1, F.2.2.2.2.1, F.2.2.2.2.2.1⟩ (hC H.size) ⟨sg_callB F hcode hini hlink hcd hR, F.2.2.2.2.2.1 _ hin, F.2.2.2.2.2.1 _ hsel⟩ (b := Λ.2.2 b.toNat) (As := As.map (sg_cv Λ)) ⟨sg_blind, sg_recv F hb hkd hcl hH, hpr⟩ rfl (by rw [List.length_map]; exact hn) hl.1 (by show (As.reverse ++ (sg_r b :: S)).map (sg_cv Λ) = _; rw [List.map_append, List.map_reverse, List.map_cons, eb]) (sg_room hcs) hd hf T0 hT X with ⟨v, st₀, t, T', Lc, h0', X', hL, e1, e2, ⟨⟨v', Λ', σ', hv, hKv, hE, hH'⟩, hF⟩, stp⟩ | ⟨q, st₀, t, T', Lc, E, ce, h0', X', hL, e1, e2, ⟨hE, hTt, hH', hF⟩, hce, hcv, hcls, stp⟩
  · have hΛ := hK v' Λ' σ' hKv
    subst hΛ
    have hS' := keep T' t st₀ Lc h0' e1 hL hF
    have hH2 : sg_H G A Λ' σ' T'.heap := by
      rw [e1]
      exact sg_H_A hH' (fun k hk2 => hsub _ (sg_H_in hH' hk2))
    obtain ⟨t2, a1, b1⟩ := kk v' σ' hKv T'.heap (locs ++ Lc) ls hH2 hS' hl T' rfl X'
    refine ⟨t2, stp t2 ?_, b1⟩
    cases hv
    cases rt with
    | none => exact a1
    | some ty => exact a1
  · have hS' := keep T' t st₀ Lc h0' e1 hL hF
    have hH2 : sg_H G A Λ σ T'.heap := by
      rw [e1]
      exact sg_H_A hH' (fun k hk2 => hsub _ (sg_H_in hH' hk2))
    subst hE
    have hw := kx hTt q T'.heap (locs ++ Lc) ls hH2 hS' hl
    obtain ⟨t2, a1, b1⟩ := vx_catch (rest := S.map (sg_cv Λ)) (pc := pc) (ls := ls) F.2.2.2.2.1 [] x [] htab (fun z hz => by cases hz) hx h0 (F.2.2.2.2.2.1 _ hcat) (va_Nw.use rfl (F.2.2.2.2.2.2.2.2.2.1 _ kw_891)) (by rw [e1]; exact hce) hcv hcls hw T' rfl X'
    exact ⟨t2, stp.trans a1, b1⟩
theorem gc_H (F : sg_F p s m args meth c own cc nL ret G A) {y : MethodName} {bytes : ByteArray} {hh : List (Nat × Nat × Nat × Nat)} {maxL idx n d mc ms : Nat} {rt : Option FieldType} {As st : List sg_V} {K : sg_V → sg_L → sg_M → Prop} (hC : ∀ sz : Nat, Met l y (.codeWith y bytes maxL rt hh :: sg_W0) (sg_rm d mc ms) (sg_Pc G Λ σ sz As) (sg_Q rt G Λ sz K) mc ms (sg_A Λ sz)) (hcode : Cond.codeWith y bytes maxL rt hh ∈ sg_W0) (hini : Cond.initialized y.cls ∈ sg_W0) (hlink : Cond.methodLink own idx y ∈ sg_W0) (hst : Cond.static y ∈ sg_W0)
    (hcd : y.cls ≠ "java/lang/invoke/MethodHandle" ∧ y.cls ≠ "java/lang/invoke/VarHandle" ∧ (parseMethodDescriptor y.desc).map (fun d => d.parameters.length) = some n) (hR : d + 1 ≤ R.frames ∧ 8 + (maxL + 11) + 40 * d ≤ R.locals) (hn : As.length = n) (hs : As.reverse ++ S = st) (hcs : sg_cats S ≤ 8) (hf : cells + mc ≤ R.cells ∧ slots + ms ≤ R.slots) (hd : decode cc pc = .ok (.invokestatic idx, 3)) : sg_Rn p l e R s m args below meth c nL G A Λ σ cells slots pc L st S rt mc ms K := by
  subst hs
  refine ⟨(As.map (sg_cv Λ)).toArray, fun H locs ls hH hS hl => ?_⟩
  have hG : GoodIn sg_W0 (.codeWith y bytes maxL rt hh :: sg_W0) := by
    intro w hw
    rcases List.mem_cons.mp hw with rfl | hw
    · exact ⟨hcode, (sg_W0_ok _ hcode).2⟩
    · exact ⟨hw, (sg_W0_ok _ hw).2⟩
  have hts := F.2.2.2.2.2.1
  refine vx_runSW (n := n) ⟨F.1, F.2.1, F.2.2.1, F.2.2.2.2.1, F.2.2.2.2.2.1⟩ (hC H.size) ⟨⟨rfl, rfl, hR.1, hR.2, pay_in hts hG, List.mem_cons_self⟩, hts _ hcode, hts _ hini, ⟨hcd.1, hcd.2.1⟩, fun sig h => ?_, hts _ hlink, hts _ hst⟩ ⟨sg_blind, sg_pre F hH hS⟩ rfl (by rw [List.length_map]; exact hn) hl.1 sg_stack (sg_room hcs) hd hf
  have h2 := hcd.2.2
  rw [h] at h2
  exact (Option.some.inj h2).symm
end SGTH
