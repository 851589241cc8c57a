/-! THE ROWS over the logical heap: sg_W says that the machine, at pc with these locals and this stack, over any heap that holds the logical one, comes to Q -/
section SGR
def sg_W (p : Program) (l : Launch) (e : Env) (R : Room) (s : State) (m : MethodId) (args : Array Value) (below : List Frame) (meth : Method) (c : Code) (Q : State → Prop) (nL : Nat) (G : sg_G) (A : Nat → Prop) (Λ : sg_L) (σ : sg_M) (cells slots : Nat) (pc : Nat) (L : List (Nat × sg_V)) (S : List sg_V) : Prop :=
  ∀ (H : Heap) (locs : List Loc) (ls : Array Slot), sg_H G A Λ σ H → va_S A s.heap H locs → lv_has ls nL (L.map (fun q => (q.1, sg_cv Λ q.2))) → W p l e R s m args below meth c H locs cells slots Q (F0 m pc ls (S.map (sg_cv Λ)))
def sg_F (p : Program) (s : State) (m : MethodId) (args : Array Value) (meth : Method) (c : Code) (own : String) (cc : ByteArray) (nL : Nat) (ret : Option FieldType) (G : sg_G) (A : Nat → Prop) : Prop :=
  p.tables.exec = Jvm.exec ∧ c.code = cc ∧ c.maxLocals = nL ∧ meth.sig.returnType = ret ∧ s.vm.findClass own = some m.cls ∧ (∀ w ∈ sg_W0, w.before args s = true) ∧ meth.locks = false ∧ va_K G.1 vwCl (sg_tys G) s ∧ (∀ q, s.heap.size ≤ q → A q) ∧ sg_N s ∧ sg_Y G A s s.heap
def sg_cat : sg_V → Nat
  | .inr (.inl _) => 2
  | _ => 1
theorem sg_cat_ok {Λ : sg_L} (v : sg_V) : (sg_cv Λ v).category = sg_cat v := by
  rcases v with x | x | r | a
  · rfl
  · rfl
  · show (sg_rf _ _).category = 1
    unfold sg_rf
    split <;> rfl
  · rfl
theorem sg_rf_ref {ad : Nat → Nat} {r : Int} (h : 0 ≤ r) : sg_rf ad r = .ref (ad r.toNat) := by
  unfold sg_rf
  rw [if_neg (by omega)]
theorem sg_rf_null {ad : Nat → Nat} {r : Int} (h : r < 0) : sg_rf ad r = .null := by
  unfold sg_rf
  rw [if_pos h]
theorem sg_at {Λ : sg_L} {ls : Array Slot} {nL : Nat} {L : List (Nat × sg_V)} (hl : lv_has ls nL (L.map (fun q => (q.1, sg_cv Λ q.2)))) (k : Nat) {i : Nat} {v : sg_V} (h : L[k]? = some (i, v)) : ls[i]? = some (.val (sg_cv Λ v)) := lv_at hl k (by rw [List.getElem?_map, h]; rfl)
def sg_keep1 (i : Nat) (q : Nat × sg_V) : Bool := !(q.1 == i) && !(q.1 + 1 == i && sg_cat q.2 == 2)
def sg_keep2 (i : Nat) (q : Nat × sg_V) : Bool := !(q.1 == i) && (!(q.1 == i + 1) && !(q.1 + 1 == i && sg_cat q.2 == 2))
theorem sg_map_filter {Λ : sg_L} {L : List (Nat × sg_V)} {P : Nat × sg_V → Bool} {P' : Nat × Value → Bool} (h : ∀ q, P' (q.1, sg_cv Λ q.2) = P q) : (L.map (fun q => (q.1, sg_cv Λ q.2))).filter P' = (L.filter P).map (fun q => (q.1, sg_cv Λ q.2)) := by
  rw [List.filter_map]
  congr 1
  apply List.filter_congr
  intro q _
  exact h q
variable {p : Program} {l : Launch} {e : Env} {R : Room} {s : State} {m : MethodId} {args : Array Value} {below : List Frame} {meth : Method} {c : Code} {Q : State → Prop} {G : sg_G} {A : Nat → Prop} {Λ : sg_L} {σ : sg_M} {cells slots : Nat} {own : String} {cc : ByteArray} {nL : Nat} {ret : Option FieldType} {pc : Nat} {L L' : List (Nat × sg_V)} {S : List sg_V}
theorem gw_iconst (F : sg_F p s m args meth c own cc nL ret G A) {n : Int} (hd : decode cc pc = .ok (.iconst n, 1)) (k : sg_W p l e R s m args below meth c Q nL G A Λ σ cells slots (pc + 1) L (sg_i n :: S)) : sg_W p l e R s m args below meth c Q nL G A Λ σ cells slots pc L S := by
  intro H locs ls hH hS hl
  exact lv_iconst F.1 F.2.1 hd rfl (k H locs ls hH hS hl)
theorem gw_bipush (F : sg_F p s m args meth c own cc nL ret G A) {n : Int} (hv : (Int8.ofInt n).toInt32 = Int32.ofInt n) (hd : decode cc pc = .ok (.bipush n, 2)) (k : sg_W p l e R s m args below meth c Q nL G A Λ σ cells slots (pc + 2) L (sg_i n :: S)) : sg_W p l e R s m args below meth c Q nL G A Λ σ cells slots pc L S := by
  intro H locs ls hH hS hl
  exact lv_bipush F.1 F.2.1 hd hv (k H locs ls hH hS hl)
theorem gw_sipush (F : sg_F p s m args meth c own cc nL ret G A) {n : Int} (hv : (Int16.ofInt n).toInt32 = Int32.ofInt n) (hd : decode cc pc = .ok (.sipush n, 3)) (k : sg_W p l e R s m args below meth c Q nL G A Λ σ cells slots (pc + 3) L (sg_i n :: S)) : sg_W p l e R s m args below meth c Q nL G A Λ σ cells slots pc L S := by
  intro H locs ls hH hS hl
  exact lv_sipush F.1 F.2.1 hd hv (k H locs ls hH hS hl)
theorem gw_ldc (F : sg_F p s m args meth c own cc nL ret G A) {n : Int} {idx : Nat} {v : Int32} (hw : Cond.constant own idx v ∈ sg_W0) (hv : v = Int32.ofInt n) (hd : decode cc pc = .ok (.ldc idx, 2)) (k : sg_W p l e R s m args below meth c Q nL G A Λ σ cells slots (pc + 2) L (sg_i n :: S)) : sg_W p l e R s m args below meth c Q nL G A Λ σ cells slots pc L S := by
  intro H locs ls hH hS hl
  subst hv
  exact lv_ldc F.1 F.2.1 F.2.2.2.2.1 (F.2.2.2.2.2.1 _ hw) hd (k H locs ls hH hS hl)
theorem gw_ldc2 (F : sg_F p s m args meth c own cc nL ret G A) {n : Int} {idx : Nat} {v : Int64} (hw : Cond.constantLong own idx v ∈ sg_W0) (hv : v = Int64.ofInt n) (hd : decode cc pc = .ok (.ldc2_w idx, 3)) (k : sg_W p l e R s m args below meth c Q nL G A Λ σ cells slots (pc + 3) L (sg_l n :: S)) : sg_W p l e R s m args below meth c Q nL G A Λ σ cells slots pc L S := by
  intro H locs ls hH hS hl
  subst hv
  exact lv_ldc2 F.1 F.2.1 F.2.2.2.2.1 (F.2.2.2.2.2.1 _ hw) hd (k H locs ls hH hS hl)
theorem gw_lconst (F : sg_F p s m args meth c own cc nL ret G A) {n : Fin 2} {z : Int} (hv : Int64.ofNat (n : Nat) = Int64.ofInt z) (hd : decode cc pc = .ok (.lconst n, 1)) (k : sg_W p l e R s m args below meth c Q nL G A Λ σ cells slots (pc + 1) L (sg_l z :: S)) : sg_W p l e R s m args below meth c Q nL G A Λ σ cells slots pc L S := by
  intro H locs ls hH hS hl
  exact lv_lconst F.1 F.2.1 hd hv (k H locs ls hH hS hl)
theorem gw_iload_n (F : sg_F p s m args meth c own cc nL ret G A) {x : Int} {i : Nat} {j : Fin 4} (q : Nat) (hq : L[q]? = some (i, sg_i x)) (hj : (j : Nat) = i) (hd : decode cc pc = .ok (.iload_n j, 1)) (k : sg_W p l e R s m args below meth c Q nL G A Λ σ cells slots (pc + 1) L (sg_i x :: S)) : sg_W p l e R s m args below meth c Q nL G A Λ σ cells slots pc L S := by
  intro H locs ls hH hS hl
  exact lv_iload_n F.1 F.2.1 hd hj (sg_at hl q hq) (k H locs ls hH hS hl)
theorem gw_iload (F : sg_F p s m args meth c own cc nL ret G A) {x : Int} {i : Nat} (q : Nat) (hq : L[q]? = some (i, sg_i x)) (hd : decode cc pc = .ok (.iload i, 2)) (k : sg_W p l e R s m args below meth c Q nL G A Λ σ cells slots (pc + 2) L (sg_i x :: S)) : sg_W p l e R s m args below meth c Q nL G A Λ σ cells slots pc L S := by
  intro H locs ls hH hS hl
  exact lv_iload F.1 F.2.1 hd (sg_at hl q hq) (k H locs ls hH hS hl)
theorem gw_lload_n (F : sg_F p s m args meth c own cc nL ret G A) {x : Int} {i : Nat} {j : Fin 4} (q : Nat) (hq : L[q]? = some (i, sg_l x)) (hj : (j : Nat) = i) (hd : decode cc pc = .ok (.lload_n j, 1)) (k : sg_W p l e R s m args below meth c Q nL G A Λ σ cells slots (pc + 1) L (sg_l x :: S)) : sg_W p l e R s m args below meth c Q nL G A Λ σ cells slots pc L S := by
  intro H locs ls hH hS hl
  exact lv_lload_n F.1 F.2.1 hd hj (sg_at hl q hq) (k H locs ls hH hS hl)
theorem gw_lload (F : sg_F p s m args meth c own cc nL ret G A) {x : Int} {i : Nat} (q : Nat) (hq : L[q]? = some (i, sg_l x)) (hd : decode cc pc = .ok (.lload i, 2)) (k : sg_W p l e R s m args below meth c Q nL G A Λ σ cells slots (pc + 2) L (sg_l x :: S)) : sg_W p l e R s m args below meth c Q nL G A Λ σ cells slots pc L S := by
  intro H locs ls hH hS hl
  exact lv_lload F.1 F.2.1 hd (sg_at hl q hq) (k H locs ls hH hS hl)
theorem gw_aload_n (F : sg_F p s m args meth c own cc nL ret G A) {r : Int} {i : Nat} {j : Fin 4} (q : Nat) (hq : L[q]? = some (i, sg_r r)) (hj : (j : Nat) = i) (h0 : 0 ≤ r) (hd : decode cc pc = .ok (.aload_n j, 1)) (k : sg_W p l e R s m args below meth c Q nL G A Λ σ cells slots (pc + 1) L (sg_r r :: S)) : sg_W p l e R s m args below meth c Q nL G A Λ σ cells slots pc L S := by
  intro H locs ls hH hS hl
  have hv := sg_at hl q hq
  rw [show sg_cv Λ (sg_r r) = .ref (Λ.2.2 r.toNat) from sg_rf_ref h0] at hv
  have h1 := k H locs ls hH hS hl
  rw [List.map_cons, show sg_cv Λ (sg_r r) = .ref (Λ.2.2 r.toNat) from sg_rf_ref h0] at h1
  exact lv_aload_n F.1 F.2.1 hd hj hv h1
theorem gw_aload (F : sg_F p s m args meth c own cc nL ret G A) {r : Int} {i : Nat} (q : Nat) (hq : L[q]? = some (i, sg_r r)) (h0 : 0 ≤ r) (hd : decode cc pc = .ok (.aload i, 2)) (k : sg_W p l e R s m args below meth c Q nL G A Λ σ cells slots (pc + 2) L (sg_r r :: S)) : sg_W p l e R s m args below meth c Q nL G A Λ σ cells slots pc L S := by
  intro H locs ls hH hS hl
  have hv := sg_at hl q hq
  rw [show sg_cv Λ (sg_r r) = .ref (Λ.2.2 r.toNat) from sg_rf_ref h0] at hv
  have h1 := k H locs ls hH hS hl
  rw [List.map_cons, show sg_cv Λ (sg_r r) = .ref (Λ.2.2 r.toNat) from sg_rf_ref h0] at h1
  exact lv_aload F.1 F.2.1 hd hv h1
theorem gw_aload_na (F : sg_F p s m args meth c own cc nL ret G A) {r : Nat} {i : Nat} {j : Fin 4} (q : Nat) (hq : L[q]? = some (i, sg_a r)) (hj : (j : Nat) = i) (hd : decode cc pc = .ok (.aload_n j, 1)) (k : sg_W p l e R s m args below meth c Q nL G A Λ σ cells slots (pc + 1) L (sg_a r :: S)) : sg_W p l e R s m args below meth c Q nL G A Λ σ cells slots pc L S := by
  intro H locs ls hH hS hl
  exact lv_aload_n F.1 F.2.1 hd hj (sg_at hl q hq) (k H locs ls hH hS hl)
theorem gw_aload_a (F : sg_F p s m args meth c own cc nL ret G A) {r : Nat} {i : Nat} (q : Nat) (hq : L[q]? = some (i, sg_a r)) (hd : decode cc pc = .ok (.aload i, 2)) (k : sg_W p l e R s m args below meth c Q nL G A Λ σ cells slots (pc + 2) L (sg_a r :: S)) : sg_W p l e R s m args below meth c Q nL G A Λ σ cells slots pc L S := by
  intro H locs ls hH hS hl
  exact lv_aload F.1 F.2.1 hd (sg_at hl q hq) (k H locs ls hH hS hl)
theorem gw_istore_n (F : sg_F p s m args meth c own cc nL ret G A) {x : Int} {i : Nat} {j : Fin 4} (hj : (j : Nat) = i) (hn : i < nL) (hL : (i, sg_i x) :: L.filter (sg_keep1 i) = L') (hd : decode cc pc = .ok (.istore_n j, 1)) (k : sg_W p l e R s m args below meth c Q nL G A Λ σ cells slots (pc + 1) L' S) : sg_W p l e R s m args below meth c Q nL G A Λ σ cells slots pc L (sg_i x :: S) := by
  intro H locs ls hH hS hl
  subst hL
  have hf := sg_map_filter (Λ := Λ) (L := L) (P := sg_keep1 i) (P' := fun q => !(q.1 == i) && !(q.1 + 1 == i && q.2.category == 2)) (fun q => by simp only [sg_keep1, sg_cat_ok])
  refine lv_istore_n F.1 F.2.1 hd hj hl hn (lv' := (i, .int (Int32.ofInt x)) :: (L.filter (sg_keep1 i)).map (fun q : Nat × sg_V => (q.1, sg_cv Λ q.2))) (by rw [hf]) (fun ls1 hl1 => k H locs ls1 hH hS ?_)
  exact hl1
theorem gw_lstore_n (F : sg_F p s m args meth c own cc nL ret G A) {x : Int} {i : Nat} {j : Fin 4} (hj : (j : Nat) = i) (hn : i + 1 < nL) (hL : (i, sg_l x) :: L.filter (sg_keep2 i) = L') (hd : decode cc pc = .ok (.lstore_n j, 1)) (k : sg_W p l e R s m args below meth c Q nL G A Λ σ cells slots (pc + 1) L' S) : sg_W p l e R s m args below meth c Q nL G A Λ σ cells slots pc L (sg_l x :: S) := by
  intro H locs ls hH hS hl
  subst hL
  have hf := sg_map_filter (Λ := Λ) (L := L) (P := sg_keep2 i) (P' := fun q => !(q.1 == i) && (!(q.1 == i + 1) && !(q.1 + 1 == i && q.2.category == 2))) (fun q => by simp only [sg_keep2, sg_cat_ok])
  refine lv_lstore_n F.1 F.2.1 hd hj hl hn (lv' := (i, .long (Int64.ofInt x)) :: (L.filter (sg_keep2 i)).map (fun q : Nat × sg_V => (q.1, sg_cv Λ q.2))) (by rw [hf]) (fun ls1 hl1 => k H locs ls1 hH hS ?_)
  exact hl1
theorem gw_astore_n (F : sg_F p s m args meth c own cc nL ret G A) {x : Int} {i : Nat} {j : Fin 4} (hj : (j : Nat) = i) (h0 : 0 ≤ x) (hn : i < nL) (hL : (i, sg_r x) :: L.filter (sg_keep1 i) = L') (hd : decode cc pc = .ok (.astore_n j, 1)) (k : sg_W p l e R s m args below meth c Q nL G A Λ σ cells slots (pc + 1) L' S) : sg_W p l e R s m args below meth c Q nL G A Λ σ cells slots pc L (sg_r x :: S) := by
  intro H locs ls hH hS hl
  subst hL
  have hf := sg_map_filter (Λ := Λ) (L := L) (P := sg_keep1 i) (P' := fun q => !(q.1 == i) && !(q.1 + 1 == i && q.2.category == 2)) (fun q => by simp only [sg_keep1, sg_cat_ok])
  show W p l e R s m args below meth c H locs cells slots Q (F0 m pc ls (sg_rf Λ.2.2 x :: S.map (sg_cv Λ)))
  rw [sg_rf_ref h0]
  refine lv_astore_n F.1 F.2.1 hd hj hl hn (lv' := (i, .ref (Λ.2.2 x.toNat)) :: (L.filter (sg_keep1 i)).map (fun q : Nat × sg_V => (q.1, sg_cv Λ q.2))) (by rw [hf]) (fun ls1 hl1 => k H locs ls1 hH hS ?_)
  rw [List.map_cons, show sg_cv Λ (sg_r x) = .ref (Λ.2.2 x.toNat) from sg_rf_ref h0]
  exact hl1
theorem gw_astore_na (F : sg_F p s m args meth c own cc nL ret G A) {x : Nat} {i : Nat} {j : Fin 4} (hj : (j : Nat) = i) (hn : i < nL) (hL : (i, sg_a x) :: L.filter (sg_keep1 i) = L') (hd : decode cc pc = .ok (.astore_n j, 1)) (k : sg_W p l e R s m args below meth c Q nL G A Λ σ cells slots (pc + 1) L' S) : sg_W p l e R s m args below meth c Q nL G A Λ σ cells slots pc L (sg_a x :: S) := by
  intro H locs ls hH hS hl
  subst hL
  have hf := sg_map_filter (Λ := Λ) (L := L) (P := sg_keep1 i) (P' := fun q => !(q.1 == i) && !(q.1 + 1 == i && q.2.category == 2)) (fun q => by simp only [sg_keep1, sg_cat_ok])
  refine lv_astore_n F.1 F.2.1 hd hj hl hn (lv' := (i, .ref x) :: (L.filter (sg_keep1 i)).map (fun q : Nat × sg_V => (q.1, sg_cv Λ q.2))) (by rw [hf]) (fun ls1 hl1 => k H locs ls1 hH hS ?_)
  exact hl1
theorem gw_istore (F : sg_F p s m args meth c own cc nL ret G A) {x : Int} {i : Nat} (hn : i < nL) (hL : (i, sg_i x) :: L.filter (sg_keep1 i) = L') (hd : decode cc pc = .ok (.istore i, 2)) (k : sg_W p l e R s m args below meth c Q nL G A Λ σ cells slots (pc + 2) L' S) : sg_W p l e R s m args below meth c Q nL G A Λ σ cells slots pc L (sg_i x :: S) := by
  intro H locs ls hH hS hl
  subst hL
  have hf := sg_map_filter (Λ := Λ) (L := L) (P := sg_keep1 i) (P' := fun q => !(q.1 == i) && !(q.1 + 1 == i && q.2.category == 2)) (fun q => by simp only [sg_keep1, sg_cat_ok])
  refine lv_istore F.1 F.2.1 hd hl hn (lv' := (i, .int (Int32.ofInt x)) :: (L.filter (sg_keep1 i)).map (fun q : Nat × sg_V => (q.1, sg_cv Λ q.2))) (by rw [hf]) (fun ls1 hl1 => k H locs ls1 hH hS ?_)
  exact hl1
theorem gw_lstore (F : sg_F p s m args meth c own cc nL ret G A) {x : Int} {i : Nat} (hn : i + 1 < nL) (hL : (i, sg_l x) :: L.filter (sg_keep2 i) = L') (hd : decode cc pc = .ok (.lstore i, 2)) (k : sg_W p l e R s m args below meth c Q nL G A Λ σ cells slots (pc + 2) L' S) : sg_W p l e R s m args below meth c Q nL G A Λ σ cells slots pc L (sg_l x :: S) := by
  intro H locs ls hH hS hl
  subst hL
  have hf := sg_map_filter (Λ := Λ) (L := L) (P := sg_keep2 i) (P' := fun q => !(q.1 == i) && (!(q.1 == i + 1) && !(q.1 + 1 == i && q.2.category == 2))) (fun q => by simp only [sg_keep2, sg_cat_ok])
  refine lv_lstore F.1 F.2.1 hd hl hn (lv' := (i, .long (Int64.ofInt x)) :: (L.filter (sg_keep2 i)).map (fun q : Nat × sg_V => (q.1, sg_cv Λ q.2))) (by rw [hf]) (fun ls1 hl1 => k H locs ls1 hH hS ?_)
  exact hl1
theorem gw_astore (F : sg_F p s m args meth c own cc nL ret G A) {x : Int} {i : Nat} (h0 : 0 ≤ x) (hn : i < nL) (hL : (i, sg_r x) :: L.filter (sg_keep1 i) = L') (hd : decode cc pc = .ok (.astore i, 2)) (k : sg_W p l e R s m args below meth c Q nL G A Λ σ cells slots (pc + 2) L' S) : sg_W p l e R s m args below meth c Q nL G A Λ σ cells slots pc L (sg_r x :: S) := by
  intro H locs ls hH hS hl
  subst hL
  have hf := sg_map_filter (Λ := Λ) (L := L) (P := sg_keep1 i) (P' := fun q => !(q.1 == i) && !(q.1 + 1 == i && q.2.category == 2)) (fun q => by simp only [sg_keep1, sg_cat_ok])
  show W p l e R s m args below meth c H locs cells slots Q (F0 m pc ls (sg_rf Λ.2.2 x :: S.map (sg_cv Λ)))
  rw [sg_rf_ref h0]
  refine lv_astore F.1 F.2.1 hd hl hn (lv' := (i, .ref (Λ.2.2 x.toNat)) :: (L.filter (sg_keep1 i)).map (fun q : Nat × sg_V => (q.1, sg_cv Λ q.2))) (by rw [hf]) (fun ls1 hl1 => k H locs ls1 hH hS ?_)
  rw [List.map_cons, show sg_cv Λ (sg_r x) = .ref (Λ.2.2 x.toNat) from sg_rf_ref h0]
  exact hl1
theorem gw_astorea (F : sg_F p s m args meth c own cc nL ret G A) {x : Nat} {i : Nat} (hn : i < nL) (hL : (i, sg_a x) :: L.filter (sg_keep1 i) = L') (hd : decode cc pc = .ok (.astore i, 2)) (k : sg_W p l e R s m args below meth c Q nL G A Λ σ cells slots (pc + 2) L' S) : sg_W p l e R s m args below meth c Q nL G A Λ σ cells slots pc L (sg_a x :: S) := by
  intro H locs ls hH hS hl
  subst hL
  have hf := sg_map_filter (Λ := Λ) (L := L) (P := sg_keep1 i) (P' := fun q => !(q.1 == i) && !(q.1 + 1 == i && q.2.category == 2)) (fun q => by simp only [sg_keep1, sg_cat_ok])
  refine lv_astore F.1 F.2.1 hd hl hn (lv' := (i, .ref x) :: (L.filter (sg_keep1 i)).map (fun q : Nat × sg_V => (q.1, sg_cv Λ q.2))) (by rw [hf]) (fun ls1 hl1 => k H locs ls1 hH hS ?_)
  exact hl1
theorem gw_iinc (F : sg_F p s m args meth c own cc nL ret G A) {x z : Int} {i : Nat} {n : Int} (q : Nat) (hq : L[q]? = some (i, sg_i x)) (hz : x + n = z) (hn : i < nL) (hL : (i, sg_i z) :: L.filter (sg_keep1 i) = L') (hd : decode cc pc = .ok (.iinc i n, 3)) (k : sg_W p l e R s m args below meth c Q nL G A Λ σ cells slots (pc + 3) L' S) : sg_W p l e R s m args below meth c Q nL G A Λ σ cells slots pc L S := by
  intro H locs ls hH hS hl
  subst hL
  subst hz
  have hf := sg_map_filter (Λ := Λ) (L := L) (P := sg_keep1 i) (P' := fun q => !(q.1 == i) && !(q.1 + 1 == i && q.2.category == 2)) (fun q => by simp only [sg_keep1, sg_cat_ok])
  refine lv_iinc F.1 F.2.1 hd hl (k := q) (x := Int32.ofInt x) (by rw [List.getElem?_map, hq]; rfl) (v := Int32.ofInt (x + n)) (by rw [Int32.ofInt_add]) hn (lv' := (i, .int (Int32.ofInt (x + n))) :: (L.filter (sg_keep1 i)).map (fun q : Nat × sg_V => (q.1, sg_cv Λ q.2))) (by rw [hf]) (fun ls1 hl1 => k H locs ls1 hH hS hl1)
theorem gw_iadd (F : sg_F p s m args meth c own cc nL ret G A) {x y z : Int} (hz : x + y = z) (hd : decode cc pc = .ok (.iadd, 1)) (k : sg_W p l e R s m args below meth c Q nL G A Λ σ cells slots (pc + 1) L (sg_i z :: S)) : sg_W p l e R s m args below meth c Q nL G A Λ σ cells slots pc L (sg_i y :: sg_i x :: S) := by
  intro H locs ls hH hS hl
  subst hz
  have h1 := k H locs ls hH hS hl
  rw [List.map_cons, show sg_cv Λ (sg_i (x + y)) = .int (Int32.ofInt x + Int32.ofInt y) from congrArg Value.int (Int32.ofInt_add x y)] at h1
  exact lv_iadd F.1 F.2.1 hd h1
theorem gw_isub (F : sg_F p s m args meth c own cc nL ret G A) {x y z : Int} (hz : x - y = z) (hd : decode cc pc = .ok (.isub, 1)) (k : sg_W p l e R s m args below meth c Q nL G A Λ σ cells slots (pc + 1) L (sg_i z :: S)) : sg_W p l e R s m args below meth c Q nL G A Λ σ cells slots pc L (sg_i y :: sg_i x :: S) := by
  intro H locs ls hH hS hl
  subst hz
  have h1 := k H locs ls hH hS hl
  rw [List.map_cons, show sg_cv Λ (sg_i (x - y)) = .int (Int32.ofInt x - Int32.ofInt y) from congrArg Value.int (Int32.ofInt_sub x y)] at h1
  exact lv_isub F.1 F.2.1 hd h1
theorem gw_imul (F : sg_F p s m args meth c own cc nL ret G A) {x y z : Int} (hz : x * y = z) (hd : decode cc pc = .ok (.imul, 1)) (k : sg_W p l e R s m args below meth c Q nL G A Λ σ cells slots (pc + 1) L (sg_i z :: S)) : sg_W p l e R s m args below meth c Q nL G A Λ σ cells slots pc L (sg_i y :: sg_i x :: S) := by
  intro H locs ls hH hS hl
  subst hz
  have h1 := k H locs ls hH hS hl
  rw [List.map_cons, show sg_cv Λ (sg_i (x * y)) = .int (Int32.ofInt x * Int32.ofInt y) from congrArg Value.int (Int32.ofInt_mul x y)] at h1
  exact lv_imul F.1 F.2.1 hd h1
theorem gw_ineg (F : sg_F p s m args meth c own cc nL ret G A) {x z : Int} (hz : -x = z) (hd : decode cc pc = .ok (.ineg, 1)) (k : sg_W p l e R s m args below meth c Q nL G A Λ σ cells slots (pc + 1) L (sg_i z :: S)) : sg_W p l e R s m args below meth c Q nL G A Λ σ cells slots pc L (sg_i x :: S) := by
  intro H locs ls hH hS hl
  subst hz
  have h1 := k H locs ls hH hS hl
  refine lv_ineg F.1 F.2.1 hd ?_
  rw [List.map_cons, show sg_cv Λ (sg_i (-x)) = .int (-Int32.ofInt x) from congrArg Value.int (Int32.ofInt_neg x)] at h1
  have e0 : ∀ y : Int32, 0 - y = -y := fun y => by
    apply Int32.toInt.inj; simp
  first | exact h1 | (rw [e0]; exact h1) | simpa using h1
theorem gw_idiv (F : sg_F p s m args meth c own cc nL ret G A) {x y z : Int} (rx : sg_R x) (ry : sg_R y) (hy : y ≠ 0) (hz : x.tdiv y = z) (hd : decode cc pc = .ok (.idiv, 1)) (k : sg_W p l e R s m args below meth c Q nL G A Λ σ cells slots (pc + 1) L (sg_i z :: S)) : sg_W p l e R s m args below meth c Q nL G A Λ σ cells slots pc L (sg_i y :: sg_i x :: S) := by
  intro H locs ls hH hS hl
  subst hz
  have h1 := k H locs ls hH hS hl
  have m1 : Int32.minValue.toInt = -2147483648 := by decide
  have m2 : Int32.maxValue.toInt = 2147483647 := by decide
  have hd1 : Int32.ofInt (x.tdiv y) = Int32.ofInt x / Int32.ofInt y := Int32.ofInt_tdiv (by omega) (by omega) (by omega) (by omega)
  have hd2 : Int32.ofInt (x.tdiv y) = Int32.ofInt x / Int32.ofInt y := by exact hd1
  rw [List.map_cons, show sg_cv Λ (sg_i (x.tdiv y)) = .int (Int32.ofInt x / Int32.ofInt y) from congrArg Value.int hd2] at h1
  refine lv_idiv F.1 F.2.1 hd ?_ h1
  intro h
  have h2 : Int32.ofInt y = Int32.ofInt 0 := h
  rw [sg_ofInt_inj ry ⟨by omega, by omega⟩] at h2
  exact hy h2
theorem gw_irem (F : sg_F p s m args meth c own cc nL ret G A) {x y z : Int} (rx : sg_R x) (ry : sg_R y) (hy : y ≠ 0) (hz : x.tmod y = z) (hd : decode cc pc = .ok (.irem, 1)) (k : sg_W p l e R s m args below meth c Q nL G A Λ σ cells slots (pc + 1) L (sg_i z :: S)) : sg_W p l e R s m args below meth c Q nL G A Λ σ cells slots pc L (sg_i y :: sg_i x :: S) := by
  intro H locs ls hH hS hl
  subst hz
  have h1 := k H locs ls hH hS hl
  have m1 : Int32.minValue.toInt = -2147483648 := by decide
  have m2 : Int32.maxValue.toInt = 2147483647 := by decide
  have hd1 : Int32.ofInt (x.tdiv y) = Int32.ofInt x / Int32.ofInt y := Int32.ofInt_tdiv (by omega) (by omega) (by omega) (by omega)
  have hd2 : Int32.ofInt (x.tmod y) = Int32.ofInt x - Int32.ofInt x / Int32.ofInt y * Int32.ofInt y := by rw [← hd1, ← Int32.ofInt_mul, ← Int32.ofInt_sub, Int.tmod_def, Int.mul_comm]
  rw [List.map_cons, show sg_cv Λ (sg_i (x.tmod y)) = .int (Int32.ofInt x - Int32.ofInt x / Int32.ofInt y * Int32.ofInt y) from congrArg Value.int hd2] at h1
  refine lv_irem F.1 F.2.1 hd ?_ h1
  intro h
  have h2 : Int32.ofInt y = Int32.ofInt 0 := h
  rw [sg_ofInt_inj ry ⟨by omega, by omega⟩] at h2
  exact hy h2
def sg_and (x y : Int) : Int := (Int32.ofInt x &&& Int32.ofInt y).toInt
def sg_or (x y : Int) : Int := (Int32.ofInt x ||| Int32.ofInt y).toInt
def sg_xor (x y : Int) : Int := (Int32.ofInt x ^^^ Int32.ofInt y).toInt
def sg_shl (x y : Int) : Int := (Int32.ofInt x <<< (Int32.ofInt y &&& 31)).toInt
def sg_shr (x y : Int) : Int := (Int32.ofInt x >>> (Int32.ofInt y &&& 31)).toInt
def sg_ushr (x y : Int) : Int := ((Int32.ofInt x).toUInt32 >>> ((Int32.ofInt y).toUInt32 &&& Int32.toUInt32 31)).toInt32.toInt
theorem sg_R_of (x : Int32) : sg_R x.toInt := by
  have h1 := Int32.toInt_lt x
  have h2 := Int32.le_toInt x
  constructor <;> omega
theorem sg_and_R (x y : Int) : sg_R (sg_and x y) := sg_R_of _
theorem gw_iand (F : sg_F p s m args meth c own cc nL ret G A) {x y z : Int} (hz : sg_and x y = z) (hd : decode cc pc = .ok (.iand, 1)) (k : sg_W p l e R s m args below meth c Q nL G A Λ σ cells slots (pc + 1) L (sg_i z :: S)) : sg_W p l e R s m args below meth c Q nL G A Λ σ cells slots pc L (sg_i y :: sg_i x :: S) := by
  intro H locs ls hH hS hl
  subst hz
  have h1 := k H locs ls hH hS hl
  rw [List.map_cons, show sg_cv Λ (sg_i (sg_and x y)) = .int _ from congrArg Value.int (Int32.ofInt_toInt _)] at h1
  exact lv_iand F.1 F.2.1 hd h1
theorem sg_or_R (x y : Int) : sg_R (sg_or x y) := sg_R_of _
theorem gw_ior (F : sg_F p s m args meth c own cc nL ret G A) {x y z : Int} (hz : sg_or x y = z) (hd : decode cc pc = .ok (.ior, 1)) (k : sg_W p l e R s m args below meth c Q nL G A Λ σ cells slots (pc + 1) L (sg_i z :: S)) : sg_W p l e R s m args below meth c Q nL G A Λ σ cells slots pc L (sg_i y :: sg_i x :: S) := by
  intro H locs ls hH hS hl
  subst hz
  have h1 := k H locs ls hH hS hl
  rw [List.map_cons, show sg_cv Λ (sg_i (sg_or x y)) = .int _ from congrArg Value.int (Int32.ofInt_toInt _)] at h1
  exact lv_ior F.1 F.2.1 hd h1
theorem sg_xor_R (x y : Int) : sg_R (sg_xor x y) := sg_R_of _
theorem gw_ixor (F : sg_F p s m args meth c own cc nL ret G A) {x y z : Int} (hz : sg_xor x y = z) (hd : decode cc pc = .ok (.ixor, 1)) (k : sg_W p l e R s m args below meth c Q nL G A Λ σ cells slots (pc + 1) L (sg_i z :: S)) : sg_W p l e R s m args below meth c Q nL G A Λ σ cells slots pc L (sg_i y :: sg_i x :: S) := by
  intro H locs ls hH hS hl
  subst hz
  have h1 := k H locs ls hH hS hl
  rw [List.map_cons, show sg_cv Λ (sg_i (sg_xor x y)) = .int _ from congrArg Value.int (Int32.ofInt_toInt _)] at h1
  exact lv_ixor F.1 F.2.1 hd h1
theorem sg_shl_R (x y : Int) : sg_R (sg_shl x y) := sg_R_of _
theorem gw_ishl (F : sg_F p s m args meth c own cc nL ret G A) {x y z : Int} (hz : sg_shl x y = z) (hd : decode cc pc = .ok (.ishl, 1)) (k : sg_W p l e R s m args below meth c Q nL G A Λ σ cells slots (pc + 1) L (sg_i z :: S)) : sg_W p l e R s m args below meth c Q nL G A Λ σ cells slots pc L (sg_i y :: sg_i x :: S) := by
  intro H locs ls hH hS hl
  subst hz
  have h1 := k H locs ls hH hS hl
  rw [List.map_cons, show sg_cv Λ (sg_i (sg_shl x y)) = .int _ from congrArg Value.int (Int32.ofInt_toInt _)] at h1
  exact lv_ishl F.1 F.2.1 hd h1
theorem sg_shr_R (x y : Int) : sg_R (sg_shr x y) := sg_R_of _
theorem gw_ishr (F : sg_F p s m args meth c own cc nL ret G A) {x y z : Int} (hz : sg_shr x y = z) (hd : decode cc pc = .ok (.ishr, 1)) (k : sg_W p l e R s m args below meth c Q nL G A Λ σ cells slots (pc + 1) L (sg_i z :: S)) : sg_W p l e R s m args below meth c Q nL G A Λ σ cells slots pc L (sg_i y :: sg_i x :: S) := by
  intro H locs ls hH hS hl
  subst hz
  have h1 := k H locs ls hH hS hl
  rw [List.map_cons, show sg_cv Λ (sg_i (sg_shr x y)) = .int _ from congrArg Value.int (Int32.ofInt_toInt _)] at h1
  exact lv_ishr F.1 F.2.1 hd h1
theorem sg_ushr_R (x y : Int) : sg_R (sg_ushr x y) := sg_R_of _
theorem gw_iushr (F : sg_F p s m args meth c own cc nL ret G A) {x y z : Int} (hz : sg_ushr x y = z) (hd : decode cc pc = .ok (.iushr, 1)) (k : sg_W p l e R s m args below meth c Q nL G A Λ σ cells slots (pc + 1) L (sg_i z :: S)) : sg_W p l e R s m args below meth c Q nL G A Λ σ cells slots pc L (sg_i y :: sg_i x :: S) := by
  intro H locs ls hH hS hl
  subst hz
  have h1 := k H locs ls hH hS hl
  rw [List.map_cons, show sg_cv Λ (sg_i (sg_ushr x y)) = .int _ from congrArg Value.int (Int32.ofInt_toInt _)] at h1
  exact lv_iushr F.1 F.2.1 hd rfl h1
theorem gw_ladd (F : sg_F p s m args meth c own cc nL ret G A) {x y z : Int} (hz : x + y = z) (hd : decode cc pc = .ok (.ladd, 1)) (k : sg_W p l e R s m args below meth c Q nL G A Λ σ cells slots (pc + 1) L (sg_l z :: S)) : sg_W p l e R s m args below meth c Q nL G A Λ σ cells slots pc L (sg_l y :: sg_l x :: S) := by
  intro H locs ls hH hS hl
  subst hz
  have h1 := k H locs ls hH hS hl
  rw [List.map_cons, show sg_cv Λ (sg_l (x + y)) = .long (Int64.ofInt x + Int64.ofInt y) from congrArg Value.long (Int64.ofInt_add x y)] at h1
  exact lv_ladd F.1 F.2.1 hd h1
theorem gw_lsub (F : sg_F p s m args meth c own cc nL ret G A) {x y z : Int} (hz : x - y = z) (hd : decode cc pc = .ok (.lsub, 1)) (k : sg_W p l e R s m args below meth c Q nL G A Λ σ cells slots (pc + 1) L (sg_l z :: S)) : sg_W p l e R s m args below meth c Q nL G A Λ σ cells slots pc L (sg_l y :: sg_l x :: S) := by
  intro H locs ls hH hS hl
  subst hz
  have h1 := k H locs ls hH hS hl
  rw [List.map_cons, show sg_cv Λ (sg_l (x - y)) = .long (Int64.ofInt x - Int64.ofInt y) from congrArg Value.long (Int64.ofInt_sub x y)] at h1
  exact lv_lsub F.1 F.2.1 hd h1
theorem gw_lmul (F : sg_F p s m args meth c own cc nL ret G A) {x y z : Int} (hz : x * y = z) (hd : decode cc pc = .ok (.lmul, 1)) (k : sg_W p l e R s m args below meth c Q nL G A Λ σ cells slots (pc + 1) L (sg_l z :: S)) : sg_W p l e R s m args below meth c Q nL G A Λ σ cells slots pc L (sg_l y :: sg_l x :: S) := by
  intro H locs ls hH hS hl
  subst hz
  have h1 := k H locs ls hH hS hl
  rw [List.map_cons, show sg_cv Λ (sg_l (x * y)) = .long (Int64.ofInt x * Int64.ofInt y) from congrArg Value.long (Int64.ofInt_mul x y)] at h1
  exact lv_lmul F.1 F.2.1 hd h1
theorem gw_ldiv (F : sg_F p s m args meth c own cc nL ret G A) {x y z : Int} (rx : sg_R64 x) (ry : sg_R64 y) (hy : y ≠ 0) (hz : x.tdiv y = z) (hd : decode cc pc = .ok (.ldiv, 1)) (k : sg_W p l e R s m args below meth c Q nL G A Λ σ cells slots (pc + 1) L (sg_l z :: S)) : sg_W p l e R s m args below meth c Q nL G A Λ σ cells slots pc L (sg_l y :: sg_l x :: S) := by
  intro H locs ls hH hS hl
  subst hz
  have h1 := k H locs ls hH hS hl
  have m1 : Int64.minValue.toInt = -9223372036854775808 := by decide
  have m2 : Int64.maxValue.toInt = 9223372036854775807 := by decide
  rw [List.map_cons, show sg_cv Λ (sg_l (x.tdiv y)) = .long (Int64.ofInt x / Int64.ofInt y) from congrArg Value.long (Int64.ofInt_tdiv (by omega) (by omega) (by omega) (by omega))] at h1
  refine lv_ldiv F.1 F.2.1 hd ?_ h1
  intro h
  have h2 := congrArg Int64.toInt h
  rw [sg_toInt64 ry] at h2
  exact hy h2
theorem gw_i2l (F : sg_F p s m args meth c own cc nL ret G A) {x : Int} (rx : sg_R x) (hd : decode cc pc = .ok (.i2l, 1)) (k : sg_W p l e R s m args below meth c Q nL G A Λ σ cells slots (pc + 1) L (sg_l x :: S)) : sg_W p l e R s m args below meth c Q nL G A Λ σ cells slots pc L (sg_i x :: S) := by
  intro H locs ls hH hS hl
  refine lv_i2l F.1 F.2.1 hd (v := Int64.ofInt x) ?_ (k H locs ls hH hS hl)
  have m1 : Int32.minValue.toInt = -2147483648 := by decide
  have m2 : Int32.maxValue.toInt = 2147483647 := by decide
  exact Int32.toInt64_ofInt (by omega) (by omega)
theorem gw_l2i (F : sg_F p s m args meth c own cc nL ret G A) {x : Int} (hd : decode cc pc = .ok (.l2i, 1)) (k : sg_W p l e R s m args below meth c Q nL G A Λ σ cells slots (pc + 1) L (sg_i x :: S)) : sg_W p l e R s m args below meth c Q nL G A Λ σ cells slots pc L (sg_l x :: S) := by
  intro H locs ls hH hS hl
  exact lv_l2i F.1 F.2.1 hd (v := Int32.ofInt x) Int64.toInt32_ofInt (k H locs ls hH hS hl)
def sg_cmp (x y : Int) : Int := if y < x then 1 else if x = y then 0 else -1
theorem gw_lcmp (F : sg_F p s m args meth c own cc nL ret G A) {x y z : Int} (rx : sg_R64 x) (ry : sg_R64 y) (hz : sg_cmp x y = z) (hd : decode cc pc = .ok (.lcmp, 1)) (k : sg_W p l e R s m args below meth c Q nL G A Λ σ cells slots (pc + 1) L (sg_i z :: S)) : sg_W p l e R s m args below meth c Q nL G A Λ σ cells slots pc L (sg_l y :: sg_l x :: S) := by
  intro H locs ls hH hS hl
  subst hz
  have h1 := k H locs ls hH hS hl
  refine W.lcmp F.1 F.2.1 hd ?_
  rw [List.map_cons, show sg_cv Λ (sg_i (sg_cmp x y)) = .int (lg_cmp (Int64.ofInt x) (Int64.ofInt y)) from congrArg Value.int ?_] at h1
  · exact h1
  · have e1 : Int64.ofInt x > Int64.ofInt y ↔ y < x := by
      show Int64.ofInt y < Int64.ofInt x ↔ _
      rw [Int64.lt_iff_toInt_lt, sg_toInt64 rx, sg_toInt64 ry]
    have e2 : Int64.ofInt x = Int64.ofInt y ↔ x = y := by
      rw [← Int64.toInt_inj, sg_toInt64 rx, sg_toInt64 ry]
    unfold sg_cmp lg_cmp
    simp only [e1, e2]
    split <;> first | rfl | (split <;> rfl)
theorem gw_dup (F : sg_F p s m args meth c own cc nL ret G A) {v : sg_V} (hv : sg_cat v = 1) (hd : decode cc pc = .ok (.dup, 1)) (k : sg_W p l e R s m args below meth c Q nL G A Λ σ cells slots (pc + 1) L (v :: v :: S)) : sg_W p l e R s m args below meth c Q nL G A Λ σ cells slots pc L (v :: S) := by
  intro H locs ls hH hS hl
  exact lv_dup F.1 F.2.1 hd (by rw [sg_cat_ok]; exact hv) (k H locs ls hH hS hl)
theorem gw_pop (F : sg_F p s m args meth c own cc nL ret G A) {v : sg_V} (hv : sg_cat v = 1) (hd : decode cc pc = .ok (.pop, 1)) (k : sg_W p l e R s m args below meth c Q nL G A Λ σ cells slots (pc + 1) L S) : sg_W p l e R s m args below meth c Q nL G A Λ σ cells slots pc L (v :: S) := by
  intro H locs ls hH hS hl
  exact lv_pop F.1 F.2.1 hd (by rw [sg_cat_ok]; exact hv) (k H locs ls hH hS hl)
theorem gw_dup2 (F : sg_F p s m args meth c own cc nL ret G A) {v w : sg_V} (hv : sg_cat v = 1) (hw : sg_cat w = 1) (hd : decode cc pc = .ok (.dup2, 1)) (k : sg_W p l e R s m args below meth c Q nL G A Λ σ cells slots (pc + 1) L (v :: w :: v :: w :: S)) : sg_W p l e R s m args below meth c Q nL G A Λ σ cells slots pc L (v :: w :: S) := by
  intro H locs ls hH hS hl
  exact lv_dup2_11 F.1 F.2.1 hd (by rw [sg_cat_ok]; exact hv) (by rw [sg_cat_ok]; exact hw) (k H locs ls hH hS hl)
theorem gw_icmp_eq (F : sg_F p s m args meth c own cc nL ret G A) {x y : Int} {off : Int} {tgt : Nat} (hd : decode cc pc = .ok (.if_icmp .eq off, 3)) (ht : (pc : Int) + off = (tgt : Int)) (rx : sg_R x) (ry : sg_R y) (kt : x = y → sg_W p l e R s m args below meth c Q nL G A Λ σ cells slots tgt L S) (kf : ¬ (x = y) → sg_W p l e R s m args below meth c Q nL G A Λ σ cells slots (pc + 3) L S) : sg_W p l e R s m args below meth c Q nL G A Λ σ cells slots pc L (sg_i y :: sg_i x :: S) := by
  intro H locs ls hH hS hl
  have e0 := sg_ofInt_inj rx ry
  have e := (sg_ofInt_inj rx ry)
  exact lv_icmp_eq F.1 F.2.1 hd ht (fun h => kt (e.mp h) H locs ls hH hS hl) (fun h => kf (fun z => h (e.mpr z)) H locs ls hH hS hl)
theorem gw_if_eq (F : sg_F p s m args meth c own cc nL ret G A) {x : Int} {off : Int} {tgt : Nat} (hd : decode cc pc = .ok (.ifCond .eq off, 3)) (ht : (pc : Int) + off = (tgt : Int)) (rx : sg_R x) (kt : x = 0 → sg_W p l e R s m args below meth c Q nL G A Λ σ cells slots tgt L S) (kf : ¬ (x = 0) → sg_W p l e R s m args below meth c Q nL G A Λ σ cells slots (pc + 3) L S) : sg_W p l e R s m args below meth c Q nL G A Λ σ cells slots pc L (sg_i x :: S) := by
  intro H locs ls hH hS hl
  have r0 : sg_R 0 := ⟨by omega, by omega⟩
  have e0 := sg_ofInt_inj rx r0
  have e := (sg_ofInt_inj rx r0)
  exact lv_if_eq F.1 F.2.1 hd ht (fun h => kt (e.mp h) H locs ls hH hS hl) (fun h => kf (fun z => h (e.mpr z)) H locs ls hH hS hl)
theorem gw_icmp_ne (F : sg_F p s m args meth c own cc nL ret G A) {x y : Int} {off : Int} {tgt : Nat} (hd : decode cc pc = .ok (.if_icmp .ne off, 3)) (ht : (pc : Int) + off = (tgt : Int)) (rx : sg_R x) (ry : sg_R y) (kt : x ≠ y → sg_W p l e R s m args below meth c Q nL G A Λ σ cells slots tgt L S) (kf : x = y → sg_W p l e R s m args below meth c Q nL G A Λ σ cells slots (pc + 3) L S) : sg_W p l e R s m args below meth c Q nL G A Λ σ cells slots pc L (sg_i y :: sg_i x :: S) := by
  intro H locs ls hH hS hl
  have e0 := sg_ofInt_inj rx ry
  have e := (not_congr (sg_ofInt_inj rx ry))
  exact lv_icmp_ne F.1 F.2.1 hd ht (fun h => kt (e.mp h) H locs ls hH hS hl) (fun h => kf (e0.mp h) H locs ls hH hS hl)
theorem gw_if_ne (F : sg_F p s m args meth c own cc nL ret G A) {x : Int} {off : Int} {tgt : Nat} (hd : decode cc pc = .ok (.ifCond .ne off, 3)) (ht : (pc : Int) + off = (tgt : Int)) (rx : sg_R x) (kt : x ≠ 0 → sg_W p l e R s m args below meth c Q nL G A Λ σ cells slots tgt L S) (kf : x = 0 → sg_W p l e R s m args below meth c Q nL G A Λ σ cells slots (pc + 3) L S) : sg_W p l e R s m args below meth c Q nL G A Λ σ cells slots pc L (sg_i x :: S) := by
  intro H locs ls hH hS hl
  have r0 : sg_R 0 := ⟨by omega, by omega⟩
  have e0 := sg_ofInt_inj rx r0
  have e := (not_congr (sg_ofInt_inj rx r0))
  exact lv_if_ne F.1 F.2.1 hd ht (fun h => kt (e.mp h) H locs ls hH hS hl) (fun h => kf (e0.mp h) H locs ls hH hS hl)
theorem gw_icmp_lt (F : sg_F p s m args meth c own cc nL ret G A) {x y : Int} {off : Int} {tgt : Nat} (hd : decode cc pc = .ok (.if_icmp .lt off, 3)) (ht : (pc : Int) + off = (tgt : Int)) (rx : sg_R x) (ry : sg_R y) (kt : x < y → sg_W p l e R s m args below meth c Q nL G A Λ σ cells slots tgt L S) (kf : ¬ (x < y) → sg_W p l e R s m args below meth c Q nL G A Λ σ cells slots (pc + 3) L S) : sg_W p l e R s m args below meth c Q nL G A Λ σ cells slots pc L (sg_i y :: sg_i x :: S) := by
  intro H locs ls hH hS hl
  have e0 := sg_ofInt_inj rx ry
  have e := (sg_lt rx ry)
  exact lv_icmp_lt F.1 F.2.1 hd ht (fun h => kt (e.mp h) H locs ls hH hS hl) (fun h => kf (fun z => h (e.mpr z)) H locs ls hH hS hl)
theorem gw_if_lt (F : sg_F p s m args meth c own cc nL ret G A) {x : Int} {off : Int} {tgt : Nat} (hd : decode cc pc = .ok (.ifCond .lt off, 3)) (ht : (pc : Int) + off = (tgt : Int)) (rx : sg_R x) (kt : x < 0 → sg_W p l e R s m args below meth c Q nL G A Λ σ cells slots tgt L S) (kf : ¬ (x < 0) → sg_W p l e R s m args below meth c Q nL G A Λ σ cells slots (pc + 3) L S) : sg_W p l e R s m args below meth c Q nL G A Λ σ cells slots pc L (sg_i x :: S) := by
  intro H locs ls hH hS hl
  have r0 : sg_R 0 := ⟨by omega, by omega⟩
  have e0 := sg_ofInt_inj rx r0
  have e := (sg_lt rx r0)
  exact lv_if_lt F.1 F.2.1 hd ht (fun h => kt (e.mp h) H locs ls hH hS hl) (fun h => kf (fun z => h (e.mpr z)) H locs ls hH hS hl)
theorem gw_icmp_ge (F : sg_F p s m args meth c own cc nL ret G A) {x y : Int} {off : Int} {tgt : Nat} (hd : decode cc pc = .ok (.if_icmp .ge off, 3)) (ht : (pc : Int) + off = (tgt : Int)) (rx : sg_R x) (ry : sg_R y) (kt : y ≤ x → sg_W p l e R s m args below meth c Q nL G A Λ σ cells slots tgt L S) (kf : ¬ (y ≤ x) → sg_W p l e R s m args below meth c Q nL G A Λ σ cells slots (pc + 3) L S) : sg_W p l e R s m args below meth c Q nL G A Λ σ cells slots pc L (sg_i y :: sg_i x :: S) := by
  intro H locs ls hH hS hl
  have e0 := sg_ofInt_inj rx ry
  have e := (sg_le ry rx)
  exact lv_icmp_ge F.1 F.2.1 hd ht (fun h => kt (e.mp h) H locs ls hH hS hl) (fun h => kf (fun z => h (e.mpr z)) H locs ls hH hS hl)
theorem gw_if_ge (F : sg_F p s m args meth c own cc nL ret G A) {x : Int} {off : Int} {tgt : Nat} (hd : decode cc pc = .ok (.ifCond .ge off, 3)) (ht : (pc : Int) + off = (tgt : Int)) (rx : sg_R x) (kt : 0 ≤ x → sg_W p l e R s m args below meth c Q nL G A Λ σ cells slots tgt L S) (kf : ¬ (0 ≤ x) → sg_W p l e R s m args below meth c Q nL G A Λ σ cells slots (pc + 3) L S) : sg_W p l e R s m args below meth c Q nL G A Λ σ cells slots pc L (sg_i x :: S) := by
  intro H locs ls hH hS hl
  have r0 : sg_R 0 := ⟨by omega, by omega⟩
  have e0 := sg_ofInt_inj rx r0
  have e := (sg_le r0 rx)
  exact lv_if_ge F.1 F.2.1 hd ht (fun h => kt (e.mp h) H locs ls hH hS hl) (fun h => kf (fun z => h (e.mpr z)) H locs ls hH hS hl)
theorem gw_icmp_gt (F : sg_F p s m args meth c own cc nL ret G A) {x y : Int} {off : Int} {tgt : Nat} (hd : decode cc pc = .ok (.if_icmp .gt off, 3)) (ht : (pc : Int) + off = (tgt : Int)) (rx : sg_R x) (ry : sg_R y) (kt : y < x → sg_W p l e R s m args below meth c Q nL G A Λ σ cells slots tgt L S) (kf : ¬ (y < x) → sg_W p l e R s m args below meth c Q nL G A Λ σ cells slots (pc + 3) L S) : sg_W p l e R s m args below meth c Q nL G A Λ σ cells slots pc L (sg_i y :: sg_i x :: S) := by
  intro H locs ls hH hS hl
  have e0 := sg_ofInt_inj rx ry
  have e := (sg_lt ry rx)
  exact lv_icmp_gt F.1 F.2.1 hd ht (fun h => kt (e.mp h) H locs ls hH hS hl) (fun h => kf (fun z => h (e.mpr z)) H locs ls hH hS hl)
theorem gw_if_gt (F : sg_F p s m args meth c own cc nL ret G A) {x : Int} {off : Int} {tgt : Nat} (hd : decode cc pc = .ok (.ifCond .gt off, 3)) (ht : (pc : Int) + off = (tgt : Int)) (rx : sg_R x) (kt : 0 < x → sg_W p l e R s m args below meth c Q nL G A Λ σ cells slots tgt L S) (kf : ¬ (0 < x) → sg_W p l e R s m args below meth c Q nL G A Λ σ cells slots (pc + 3) L S) : sg_W p l e R s m args below meth c Q nL G A Λ σ cells slots pc L (sg_i x :: S) := by
  intro H locs ls hH hS hl
  have r0 : sg_R 0 := ⟨by omega, by omega⟩
  have e0 := sg_ofInt_inj rx r0
  have e := (sg_lt r0 rx)
  exact lv_if_gt F.1 F.2.1 hd ht (fun h => kt (e.mp h) H locs ls hH hS hl) (fun h => kf (fun z => h (e.mpr z)) H locs ls hH hS hl)
theorem gw_icmp_le (F : sg_F p s m args meth c own cc nL ret G A) {x y : Int} {off : Int} {tgt : Nat} (hd : decode cc pc = .ok (.if_icmp .le off, 3)) (ht : (pc : Int) + off = (tgt : Int)) (rx : sg_R x) (ry : sg_R y) (kt : x ≤ y → sg_W p l e R s m args below meth c Q nL G A Λ σ cells slots tgt L S) (kf : ¬ (x ≤ y) → sg_W p l e R s m args below meth c Q nL G A Λ σ cells slots (pc + 3) L S) : sg_W p l e R s m args below meth c Q nL G A Λ σ cells slots pc L (sg_i y :: sg_i x :: S) := by
  intro H locs ls hH hS hl
  have e0 := sg_ofInt_inj rx ry
  have e := (sg_le rx ry)
  exact lv_icmp_le F.1 F.2.1 hd ht (fun h => kt (e.mp h) H locs ls hH hS hl) (fun h => kf (fun z => h (e.mpr z)) H locs ls hH hS hl)
theorem gw_if_le (F : sg_F p s m args meth c own cc nL ret G A) {x : Int} {off : Int} {tgt : Nat} (hd : decode cc pc = .ok (.ifCond .le off, 3)) (ht : (pc : Int) + off = (tgt : Int)) (rx : sg_R x) (kt : x ≤ 0 → sg_W p l e R s m args below meth c Q nL G A Λ σ cells slots tgt L S) (kf : ¬ (x ≤ 0) → sg_W p l e R s m args below meth c Q nL G A Λ σ cells slots (pc + 3) L S) : sg_W p l e R s m args below meth c Q nL G A Λ σ cells slots pc L (sg_i x :: S) := by
  intro H locs ls hH hS hl
  have r0 : sg_R 0 := ⟨by omega, by omega⟩
  have e0 := sg_ofInt_inj rx r0
  have e := (sg_le rx r0)
  exact lv_if_le F.1 F.2.1 hd ht (fun h => kt (e.mp h) H locs ls hH hS hl) (fun h => kf (fun z => h (e.mpr z)) H locs ls hH hS hl)
theorem gw_goto (F : sg_F p s m args meth c own cc nL ret G A) {off : Int} {tgt : Nat} (hd : decode cc pc = .ok (.goto off, 3)) (ht : (pc : Int) + off = (tgt : Int)) (k : sg_W p l e R s m args below meth c Q nL G A Λ σ cells slots tgt L S) : sg_W p l e R s m args below meth c Q nL G A Λ σ cells slots pc L S := by
  intro H locs ls hH hS hl
  exact lv_goto F.1 F.2.1 hd ht (k H locs ls hH hS hl)
theorem gw_ifnonnull (F : sg_F p s m args meth c own cc nL ret G A) {r : Int} {off : Int} {tgt : Nat} (hd : decode cc pc = .ok (.ifnonnull off, 3)) (ht : (pc : Int) + off = (tgt : Int)) (kt : 0 ≤ r → sg_W p l e R s m args below meth c Q nL G A Λ σ cells slots tgt L S) (kf : r < 0 → sg_W p l e R s m args below meth c Q nL G A Λ σ cells slots (pc + 3) L S) : sg_W p l e R s m args below meth c Q nL G A Λ σ cells slots pc L (sg_r r :: S) := by
  intro H locs ls hH hS hl
  show W p l e R s m args below meth c H locs cells slots Q (F0 m pc ls (sg_rf Λ.2.2 r :: S.map (sg_cv Λ)))
  rcases Int.lt_or_le r 0 with h | h
  · rw [sg_rf_null h]
    exact lv_ifnonnullN F.1 F.2.1 hd (kf h H locs ls hH hS hl)
  · rw [sg_rf_ref h]
    exact lv_ifnonnull F.1 F.2.1 hd ht (kt h H locs ls hH hS hl)
theorem gw_ifnull (F : sg_F p s m args meth c own cc nL ret G A) {r : Int} {off : Int} {tgt : Nat} (hd : decode cc pc = .ok (.ifnull off, 3)) (ht : (pc : Int) + off = (tgt : Int)) (kt : r < 0 → sg_W p l e R s m args below meth c Q nL G A Λ σ cells slots tgt L S) (kf : 0 ≤ r → sg_W p l e R s m args below meth c Q nL G A Λ σ cells slots (pc + 3) L S) : sg_W p l e R s m args below meth c Q nL G A Λ σ cells slots pc L (sg_r r :: S) := by
  intro H locs ls hH hS hl
  show W p l e R s m args below meth c H locs cells slots Q (F0 m pc ls (sg_rf Λ.2.2 r :: S.map (sg_cv Λ)))
  rcases Int.lt_or_le r 0 with h | h
  · rw [sg_rf_null h]
    exact lv_ifnullN F.1 F.2.1 hd ht (kt h H locs ls hH hS hl)
  · rw [sg_rf_ref h]
    exact lv_ifnull F.1 F.2.1 hd (kf h H locs ls hH hS hl)
theorem gw_switch (F : sg_F p s m args meth c own cc nL ret G A) {x : Int} {dflt lo hi : Int} {offs : Array Int} {len : Nat} (hd : decode cc pc = .ok (.tableswitch dflt lo hi offs, len)) (rx : sg_R x) {td : Nat} (htd : (pc : Int) + dflt = (td : Int)) (ko : x < lo ∨ hi < x → sg_W p l e R s m args below meth c Q nL G A Λ σ cells slots td L S) (ki : ∀ i : Nat, lo + i = x → x ≤ hi → ∃ (off : Int) (tgt : Nat), offs[i]? = some off ∧ (pc : Int) + off = (tgt : Int) ∧ sg_W p l e R s m args below meth c Q nL G A Λ σ cells slots tgt L S) : sg_W p l e R s m args below meth c Q nL G A Λ σ cells slots pc L (sg_i x :: S) := by
  intro H locs ls hH hS hl
  have e := sg_toInt rx
  by_cases h1 : x < lo
  · exact lv_tableOut F.1 F.2.1 hd (by rw [e]; exact Or.inl h1) htd (ko (Or.inl h1) H locs ls hH hS hl)
  · by_cases h2 : hi < x
    · exact lv_tableOut F.1 F.2.1 hd (by rw [e]; exact Or.inr h2) htd (ko (Or.inr h2) H locs ls hH hS hl)
    · obtain ⟨off, tgt, ho, ht, kk⟩ := ki (x - lo).toNat (by omega) (by omega)
      exact lv_tableIn F.1 F.2.1 hd (by rw [e]; exact h1) (by rw [e]; exact h2) (by rw [e]; exact ho) ht (kk H locs ls hH hS hl)
end SGR
