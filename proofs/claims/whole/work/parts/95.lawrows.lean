/-! THE LAW: rows for its script, its locals. -/
section SGLR
variable {p : Program} {l : Launch} {e : Env} {R : Room} {s : State} {m : MethodId} {args : Array Value} {below : List Frame} {meth : Method} {c : Code} {Q : State → Prop} {G : sg_G} {A : Nat → Prop} {Λ : sg_L} {σ σ1 : sg_M} {cells slots : Nat} {own : String} {cc : ByteArray} {nL : Nat} {ret : Option FieldType} {pc : Nat} {L L' : List (Nat × sg_V)} {S : List sg_V}
/-- the script's int at k -/
def sl_v (xs : Nat → Int32) (k : Int) : Int := (xs k.toNat).toInt
theorem sl_R (xs : Nat → Int32) (k : Int) : sg_R (sl_v xs k) := by
  have h1 := Int32.le_toInt (xs k.toNat)
  have h2 := Int32.toInt_lt (xs k.toNat)
  unfold sl_v
  exact ⟨by omega, by omega⟩
theorem gl_sub (is : List Nat) (h : is.filterMap (fun i => L[i]?) = L') (k : sg_W p l e R s m args below meth c Q nL G A Λ σ cells slots pc L' S) : sg_W p l e R s m args below meth c Q nL G A Λ σ cells slots pc L S := by
  intro H locs ls hH hS hl
  refine k H locs ls hH hS (lv_sub hl is ?_)
  subst h
  rw [List.map_filterMap]
  unfold lv_pick
  congr 1
  funext i
  rw [List.getElem?_map]
theorem gl_sld (F : sg_F p s m args meth c own cc nL ret G A) {b n : Nat} {xs : Nat → Int32} (hX : va_X b n xs s s.heap) (hbl : b < s.heap.size) (hbA : ¬ A b) {i : Int} (h0 : 0 ≤ i) (h1 : i < n) (hr : sg_R i) (hd : decode cc pc = .ok (.iaload, 1)) (k : sg_W p l e R s m args below meth c Q nL G A Λ σ cells slots (pc + 1) L (sg_i (sl_v xs i) :: S)) : sg_W p l e R s m args below meth c Q nL G A Λ σ cells slots pc L (sg_i i :: sg_a b :: S) := by
  intro H locs ls hH hS hl
  refine va_sld F.1 F.2.1 hX hbl hbA hS (i := Int32.ofInt i) (sg_in h0 h1 hr) hd ?_
  have e : (Value.int (xs (Int32.ofInt i).toNatClampNeg)) = sg_cv Λ (sg_i (sl_v xs i)) := by
    rw [sg_nat hr]
    show _ = Value.int (Int32.ofInt (xs i.toNat).toInt)
    rw [Int32.ofInt_toInt]
  rw [e]
  exact k H locs ls hH hS hl
theorem gl_slen (F : sg_F p s m args meth c own cc nL ret G A) {b n : Nat} {xs : Nat → Int32} (hX : va_X b n xs s s.heap) (hbl : b < s.heap.size) (hbA : ¬ A b) (hd : decode cc pc = .ok (.arraylength, 1)) (k : sg_W p l e R s m args below meth c Q nL G A Λ σ cells slots (pc + 1) L (sg_i n :: S)) : sg_W p l e R s m args below meth c Q nL G A Λ σ cells slots pc L (sg_a b :: S) := by
  intro H locs ls hH hS hl
  exact va_slen F.1 F.2.1 hX hbl hbA hS hd (k H locs ls hH hS hl)
/-- the script's int at i + j, loaded -/
theorem gl_arg (F : sg_F p s m args meth c own cc nL ret G A) {b n : Nat} {xs : Nat → Int32} (hX : va_X b n xs s s.heap) (hbl : b < s.heap.size) (hbA : ¬ A b) (hn : n ≤ 3072) {i j : Int} (h0 : 0 ≤ i) (h6 : i + 6 ≤ n) (hj : 0 ≤ j ∧ j ≤ 5) (q0 q4 : Nat) (a0 : L[q0]? = some (0, sg_a b)) (a4 : L[q4]? = some (4, sg_i i))
    (d0 : decode cc pc = .ok (.aload_n 0, 1)) (d1 : decode cc (pc + 1) = .ok (.iload 4, 2)) (d3 : decode cc (pc + 3) = .ok (.iconst j, 1)) (d4 : decode cc (pc + 4) = .ok (.iadd, 1)) (d5 : decode cc (pc + 5) = .ok (.iaload, 1)) (k : sg_W p l e R s m args below meth c Q nL G A Λ σ cells slots (pc + 6) L (sg_i (sl_v xs (i + j)) :: S)) : sg_W p l e R s m args below meth c Q nL G A Λ σ cells slots pc L S := by
  refine gw_aload_na F q0 a0 rfl d0 ?_
  refine gw_iload F q4 a4 d1 ?_
  refine gw_iconst F d3 ?_
  refine gw_iadd F rfl d4 ?_
  exact gl_sld F hX hbl hbA (by omega) (by omega) ⟨by omega, by omega⟩ d5 k
/-- the law's locals at the head of its loop -/
abbrev lwL (b : Nat) (i : Int) : List (Nat × sg_V) := [(0, sg_a b), (1, sg_r 0), (2, sg_r 64), (3, sg_r 88), (4, sg_i i)]
theorem lw_vok {Λ : sg_L} (hst : sg_St Λ) (h89 : 89 ≤ Λ.1) (b : Nat) (i : Int) : ∀ q ∈ lwL b i, sg_vok Λ q.2 := by
  intro q hq
  simp only [lwL, List.mem_cons, List.not_mem_nil, or_false] at hq
  rcases hq with rfl | rfl | rfl | rfl | rfl
  · trivial
  · exact Or.inl (show (0 : Int).toNat < Λ.1 by omega)
  · exact Or.inl (show (64 : Int).toNat < Λ.1 by omega)
  · exact Or.inl (show (88 : Int).toNat < Λ.1 by omega)
  · trivial
end SGLR
