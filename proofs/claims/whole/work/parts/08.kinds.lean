section SGK
variable {p : Program} {l : Launch} {e : Env} {R : Room} {s : State} {m : MethodId} {args : Array Value} {below : List Frame} {meth : Method} {c : Code} {Q : State → Prop} {G : sg_G} {A : Nat → Prop} {Λ : sg_L} {σ σ1 : sg_M} {cells slots : Nat} {own : String} {cc : ByteArray} {nL : Nat} {ret : Option FieldType} {pc : Nat} {L L' : List (Nat × sg_V)} {S : List sg_V}
/-- what a contract may say: P pure (nothing is written), else of the heap behind it, A with new cells; I, Z, J, V: the answer -/
def sg_PI (Λ : sg_L) (σ : sg_M) (Q : Int → Prop) : sg_V → sg_L → sg_M → Prop := fun v Λ' σ' => Λ' = Λ ∧ σ' = σ ∧ ∃ r : Int, v = sg_i r ∧ sg_R r ∧ Q r
def sg_PZ (Λ : sg_L) (σ : sg_M) (Q : Int → Prop) : sg_V → sg_L → sg_M → Prop := fun v Λ' σ' => Λ' = Λ ∧ σ' = σ ∧ ∃ r : Int, v = sg_i r ∧ sg_B r ∧ Q r
def sg_PJ (Λ : sg_L) (σ : sg_M) (Q : Int → Prop) : sg_V → sg_L → sg_M → Prop := fun v Λ' σ' => Λ' = Λ ∧ σ' = σ ∧ ∃ r : Int, v = sg_l r ∧ sg_R64 r ∧ Q r
def sg_HI (Λ : sg_L) (Q : Int → sg_M → Prop) : sg_V → sg_L → sg_M → Prop := fun v Λ' σ' => Λ' = Λ ∧ ∃ r : Int, v = sg_i r ∧ sg_R r ∧ Q r σ'
def sg_HZ (Λ : sg_L) (Q : Int → sg_M → Prop) : sg_V → sg_L → sg_M → Prop := fun v Λ' σ' => Λ' = Λ ∧ ∃ r : Int, v = sg_i r ∧ sg_B r ∧ Q r σ'
def sg_HV (Λ : sg_L) (Q : sg_M → Prop) : sg_V → sg_L → sg_M → Prop := fun _ Λ' σ' => Λ' = Λ ∧ Q σ'
def sg_AI (Q : Int → sg_L → sg_M → Prop) : sg_V → sg_L → sg_M → Prop := fun v Λ' σ' => ∃ r : Int, v = sg_i r ∧ sg_R r ∧ Q r Λ' σ'
def sg_AZ (Q : Int → sg_L → sg_M → Prop) : sg_V → sg_L → sg_M → Prop := fun v Λ' σ' => ∃ r : Int, v = sg_i r ∧ sg_B r ∧ Q r Λ' σ'
def sg_AV (Q : sg_L → sg_M → Prop) : sg_V → sg_L → sg_M → Prop := fun _ Λ' σ' => Q Λ' σ'
/-- a call, ready to go on behind it -/
def sg_Rn (p : Program) (l : Launch) (e : Env) (R : Room) (s : State) (m : MethodId) (args : Array Value) (below : List Frame) (meth : Method) (c : Code) (nL : Nat) (G : sg_G) (A : Nat → Prop) (Λ : sg_L) (σ : sg_M) (cells slots pc : Nat) (L : List (Nat × sg_V)) (st S : List sg_V) (rt : Option FieldType) (mc ms : Nat) (K : sg_V → sg_L → sg_M → Prop) : Prop :=
  ∃ a : Array Value, ∀ (H : Heap) (locs : List Loc) (ls : Array Slot), sg_H G A Λ σ H → va_S A s.heap H locs → lv_has ls nL (L.map (fun q => (q.1, sg_cv Λ q.2))) → va_Run p l e R s m args below meth c H locs cells slots mc ms (F0 m pc ls (st.map (sg_cv Λ))) (S.map (sg_cv Λ)) (sg_Q rt G Λ H.size K a) (sg_A Λ H.size)
theorem gc_S (F : sg_F p s m args meth c own cc nL ret G A) {y : MethodName} {bytes : ByteArray} {maxL idx n d mc ms : Nat} {rt : Option FieldType} {As st : List sg_V} {K : sg_V → sg_L → sg_M → Prop} (hC : sg_C l G y bytes maxL rt d mc ms Λ σ As K) (hcode : Cond.code y bytes maxL rt ∈ sg_W0) (hini : Cond.initialized y.cls ∈ sg_W0) (hlink : Cond.methodLink own idx y ∈ sg_W0) (hst : Cond.static y ∈ sg_W0)
    (hcd : y.cls ≠ "java/lang/invoke/MethodHandle" ∧ y.cls ≠ "java/lang/invoke/VarHandle" ∧ (parseMethodDescriptor y.desc).map (fun d => d.parameters.length) = some n) (hR : d + 1 ≤ R.frames ∧ 8 + (maxL + 11) + 40 * d ≤ R.locals) (hn : As.length = n) (hs : As.reverse ++ S = st) (hcs : sg_cats S ≤ 8) (hf : cells + mc ≤ R.cells ∧ slots + ms ≤ R.slots) (hd : decode cc pc = .ok (.invokestatic idx, 3)) : sg_Rn p l e R s m args below meth c nL G A Λ σ cells slots pc L st S rt mc ms K := by
  subst hs
  refine ⟨(As.map (sg_cv Λ)).toArray, fun H locs ls hH hS hl => ?_⟩
  exact va_runS ⟨F.1, F.2.1, F.2.2.1, F.2.2.2.2.1, F.2.2.2.2.2.1⟩ (hC H.size) ⟨sg_callB F hcode hini hlink hcd hR, F.2.2.2.2.2.1 _ hst⟩ ⟨sg_blind, sg_pre F hH hS⟩ rfl (by rw [List.length_map]; exact hn) hl.1 sg_stack (sg_room hcs) hd hf
theorem gc_SN (F : sg_F p s m args meth c own cc nL ret G A) {y : MethodName} {bytes : ByteArray} {maxL idx n d mc ms : Nat} {host : String} {rt : Option FieldType} {As st : List sg_V} {K : sg_V → sg_L → sg_M → Prop} (hC : sg_C l G y bytes maxL rt d mc ms Λ σ As K) (hcode : Cond.code y bytes maxL rt ∈ sg_W0) (hini : Cond.initialized y.cls ∈ sg_W0) (hlink : Cond.methodLinkNest own idx y host ∈ sg_WN) (hst : Cond.static y ∈ sg_W0)
    (hcd : y.cls ≠ "java/lang/invoke/MethodHandle" ∧ y.cls ≠ "java/lang/invoke/VarHandle" ∧ (parseMethodDescriptor y.desc).map (fun d => d.parameters.length) = some n) (hR : d + 1 ≤ R.frames ∧ 8 + (maxL + 11) + 40 * d ≤ R.locals) (hn : As.length = n) (hs : As.reverse ++ S = st) (hcs : sg_cats S ≤ 8) (hf : cells + mc ≤ R.cells ∧ slots + ms ≤ R.slots) (hd : decode cc pc = .ok (.invokestatic idx, 3)) : sg_Rn p l e R s m args below meth c nL G A Λ σ cells slots pc L st S rt mc ms K := by
  subst hs
  refine ⟨(As.map (sg_cv Λ)).toArray, fun H locs ls hH hS hl => ?_⟩
  exact va_runSN ⟨F.1, F.2.1, F.2.2.1, F.2.2.2.2.1, F.2.2.2.2.2.1⟩ (hC H.size) ⟨sg_callN F hcode hini hlink hcd hR, F.2.2.2.2.2.1 _ hst, trivial⟩ ⟨sg_blind, sg_pre F hH hS⟩ rfl (by rw [List.length_map]; exact hn) hl.1 sg_stack (sg_room hcs) hd hf
theorem gc_V (F : sg_F p s m args meth c own cc nL ret G A) {y : MethodName} {bytes : ByteArray} {maxL idx n d mc ms : Nat} {rt : Option FieldType} {b : Int} {kd N : Nat} {C : String} {T : u_T} {As st : List sg_V} {K : sg_V → sg_L → sg_M → Prop} (hC : sg_C l G y bytes maxL rt d mc ms Λ σ (sg_r b :: As) K) (hb : sg_O Λ b kd) (hkd : kd < 100) (hcl : vwCl[kd % 20]? = some (C, T, N)) (hcode : Cond.code y bytes maxL rt ∈ sg_W0) (hini : Cond.initialized y.cls ∈ sg_W0) (hlink : Cond.methodLink own idx y ∈ sg_W0) (hin : Cond.instanceMethod y ∈ sg_W0) (hsel : Cond.selects C y y ∈ sg_W0)
    (hcd : y.cls ≠ "java/lang/invoke/MethodHandle" ∧ y.cls ≠ "java/lang/invoke/VarHandle" ∧ (parseMethodDescriptor y.desc).map (fun d => d.parameters.length) = some n) (hR : d + 1 ≤ R.frames ∧ 8 + (maxL + 11) + 40 * d ≤ R.locals) (hn : As.length = n) (hs : As.reverse ++ (sg_r b :: S) = st) (hcs : sg_cats S ≤ 8) (hf : cells + mc ≤ R.cells ∧ slots + ms ≤ R.slots) (hd : decode cc pc = .ok (.invokevirtual idx, 3)) : sg_Rn p l e R s m args below meth c nL G A Λ σ cells slots pc L st S rt mc ms K := by
  subst hs
  refine ⟨(Value.ref (Λ.2.2 b.toNat) :: As.map (sg_cv Λ)).toArray, fun H locs ls hH hS hl => ?_⟩
  have hpr := sg_pre F (as := sg_r b :: As) hH hS
  have eb : sg_cv Λ (sg_r b) = .ref (Λ.2.2 b.toNat) := sg_rf_ref hb.1
  rw [List.map_cons, eb] at hpr
  exact va_runV (meth := meth) (l := l) (R := R) (e := e) (below := below) (locs := locs) (cells := cells) (slots := slots) (g := F0 m pc ls ((As.reverse ++ (sg_r b :: S)).map (sg_cv Λ))) (rest := S.map (sg_cv Λ)) ⟨F.1, F.2.1, F.2.2.1, F.2.2.2.2.1, F.2.2.2.2.2.1⟩ (hC H.size) ⟨sg_callB F hcode hini hlink hcd hR, F.2.2.2.2.2.1 _ hin, F.2.2.2.2.2.1 _ hsel⟩ (b := Λ.2.2 b.toNat) (As := As.map (sg_cv Λ)) ⟨sg_blind, sg_recv F hb hkd hcl hH, hpr⟩ rfl (by rw [List.length_map]; exact hn) hl.1 (by show (As.reverse ++ (sg_r b :: S)).map (sg_cv Λ) = _; rw [List.map_append, List.map_reverse, List.map_cons, eb]) (sg_room hcs) hd hf
theorem gc_VN (F : sg_F p s m args meth c own cc nL ret G A) {y : MethodName} {bytes : ByteArray} {maxL idx n d mc ms : Nat} {host : String} {rt : Option FieldType} {b : Int} {kd N : Nat} {C : String} {T : u_T} {As st : List sg_V} {K : sg_V → sg_L → sg_M → Prop} (hC : sg_C l G y bytes maxL rt d mc ms Λ σ (sg_r b :: As) K) (hb : sg_O Λ b kd) (hkd : kd < 100) (hcl : vwCl[kd % 20]? = some (C, T, N)) (hcode : Cond.code y bytes maxL rt ∈ sg_W0) (hini : Cond.initialized y.cls ∈ sg_W0) (hlink : Cond.methodLinkNest own idx y host ∈ sg_WN) (hin : Cond.instanceMethod y ∈ sg_W0) (hsel : Cond.selects C y y ∈ sg_W0)
    (hcd : y.cls ≠ "java/lang/invoke/MethodHandle" ∧ y.cls ≠ "java/lang/invoke/VarHandle" ∧ (parseMethodDescriptor y.desc).map (fun d => d.parameters.length) = some n) (hR : d + 1 ≤ R.frames ∧ 8 + (maxL + 11) + 40 * d ≤ R.locals) (hn : As.length = n) (hs : As.reverse ++ (sg_r b :: S) = st) (hcs : sg_cats S ≤ 8) (hf : cells + mc ≤ R.cells ∧ slots + ms ≤ R.slots) (hd : decode cc pc = .ok (.invokevirtual idx, 3)) : sg_Rn p l e R s m args below meth c nL G A Λ σ cells slots pc L st S rt mc ms K := by
  subst hs
  refine ⟨(Value.ref (Λ.2.2 b.toNat) :: As.map (sg_cv Λ)).toArray, fun H locs ls hH hS hl => ?_⟩
  have hpr := sg_pre F (as := sg_r b :: As) hH hS
  have eb : sg_cv Λ (sg_r b) = .ref (Λ.2.2 b.toNat) := sg_rf_ref hb.1
  rw [List.map_cons, eb] at hpr
  exact va_runVN (meth := meth) (l := l) (R := R) (e := e) (below := below) (locs := locs) (cells := cells) (slots := slots) (g := F0 m pc ls ((As.reverse ++ (sg_r b :: S)).map (sg_cv Λ))) (rest := S.map (sg_cv Λ)) ⟨F.1, F.2.1, F.2.2.1, F.2.2.2.2.1, F.2.2.2.2.2.1⟩ (hC H.size) ⟨sg_callN F hcode hini hlink hcd hR, F.2.2.2.2.2.1 _ hin, F.2.2.2.2.2.1 _ hsel⟩ (b := Λ.2.2 b.toNat) (As := As.map (sg_cv Λ)) ⟨sg_blind, sg_recv F hb hkd hcl hH, hpr⟩ rfl (by rw [List.length_map]; exact hn) hl.1 (by show (As.reverse ++ (sg_r b :: S)).map (sg_cv Λ) = _; rw [List.map_append, List.map_reverse, List.map_cons, eb]) (sg_room hcs) hd hf
theorem gc_I (F : sg_F p s m args meth c own cc nL ret G A) {y : MethodName} {bytes : ByteArray} {maxL idx n d mc ms : Nat} {b : Int} {As st : List sg_V} {K : sg_V → sg_L → sg_M → Prop} (hC : sg_C l G y bytes maxL none d mc ms Λ σ (sg_r b :: As) K) (hb : 0 ≤ b) (hcode : Cond.code y bytes maxL none ∈ sg_W0) (hini : Cond.initialized y.cls ∈ sg_W0) (hlink : Cond.methodLink own idx y ∈ sg_W0) (hin : Cond.instanceMethod y ∈ sg_W0) (hnm : y.name = "<init>")
    (hcd : y.cls ≠ "java/lang/invoke/MethodHandle" ∧ y.cls ≠ "java/lang/invoke/VarHandle" ∧ (parseMethodDescriptor y.desc).map (fun d => d.parameters.length) = some n) (hR : d + 1 ≤ R.frames ∧ 8 + (maxL + 11) + 40 * d ≤ R.locals) (hn : As.length = n) (hs : As.reverse ++ (sg_r b :: S) = st) (hcs : sg_cats S ≤ 8) (hf : cells + mc ≤ R.cells ∧ slots + ms ≤ R.slots) (hd : decode cc pc = .ok (.invokespecial idx, 3)) : sg_Rn p l e R s m args below meth c nL G A Λ σ cells slots pc L st S none mc ms K := by
  subst hs
  refine ⟨(Value.ref (Λ.2.2 b.toNat) :: As.map (sg_cv Λ)).toArray, fun H locs ls hH hS hl => ?_⟩
  have hpr := sg_pre F (as := sg_r b :: As) hH hS
  have eb : sg_cv Λ (sg_r b) = .ref (Λ.2.2 b.toNat) := sg_rf_ref hb
  rw [List.map_cons, eb] at hpr
  exact va_runI (meth := meth) (l := l) (R := R) (e := e) (below := below) (locs := locs) (cells := cells) (slots := slots) (g := F0 m pc ls ((As.reverse ++ (sg_r b :: S)).map (sg_cv Λ))) (rest := S.map (sg_cv Λ)) ⟨F.1, F.2.1, F.2.2.1, F.2.2.2.2.1, F.2.2.2.2.2.1⟩ (hC H.size) ⟨sg_callB F hcode hini hlink hcd hR, hnm, F.2.2.2.2.2.1 _ hin⟩ (b := Λ.2.2 b.toNat) (As := As.map (sg_cv Λ)) ⟨sg_blind, hpr⟩ rfl (by rw [List.length_map]; exact hn) hl.1 (by show (As.reverse ++ (sg_r b :: S)).map (sg_cv Λ) = _; rw [List.map_append, List.map_reverse, List.map_cons, eb]) (sg_room hcs) hd hf
theorem gc_IN (F : sg_F p s m args meth c own cc nL ret G A) {y : MethodName} {bytes : ByteArray} {maxL idx n d mc ms : Nat} {host : String} {b : Int} {As st : List sg_V} {K : sg_V → sg_L → sg_M → Prop} (hC : sg_C l G y bytes maxL none d mc ms Λ σ (sg_r b :: As) K) (hb : 0 ≤ b) (hcode : Cond.code y bytes maxL none ∈ sg_W0) (hini : Cond.initialized y.cls ∈ sg_W0) (hlink : Cond.methodLinkNest own idx y host ∈ sg_WN) (hin : Cond.instanceMethod y ∈ sg_W0) (hnm : y.name = "<init>")
    (hcd : y.cls ≠ "java/lang/invoke/MethodHandle" ∧ y.cls ≠ "java/lang/invoke/VarHandle" ∧ (parseMethodDescriptor y.desc).map (fun d => d.parameters.length) = some n) (hR : d + 1 ≤ R.frames ∧ 8 + (maxL + 11) + 40 * d ≤ R.locals) (hn : As.length = n) (hs : As.reverse ++ (sg_r b :: S) = st) (hcs : sg_cats S ≤ 8) (hf : cells + mc ≤ R.cells ∧ slots + ms ≤ R.slots) (hd : decode cc pc = .ok (.invokespecial idx, 3)) : sg_Rn p l e R s m args below meth c nL G A Λ σ cells slots pc L st S none mc ms K := by
  subst hs
  refine ⟨(Value.ref (Λ.2.2 b.toNat) :: As.map (sg_cv Λ)).toArray, fun H locs ls hH hS hl => ?_⟩
  have hpr := sg_pre F (as := sg_r b :: As) hH hS
  have eb : sg_cv Λ (sg_r b) = .ref (Λ.2.2 b.toNat) := sg_rf_ref hb
  rw [List.map_cons, eb] at hpr
  exact va_runIN (meth := meth) (l := l) (R := R) (e := e) (below := below) (locs := locs) (cells := cells) (slots := slots) (g := F0 m pc ls ((As.reverse ++ (sg_r b :: S)).map (sg_cv Λ))) (rest := S.map (sg_cv Λ)) ⟨F.1, F.2.1, F.2.2.1, F.2.2.2.2.1, F.2.2.2.2.2.1⟩ (hC H.size) ⟨sg_callN F hcode hini hlink hcd hR, hnm, F.2.2.2.2.2.1 _ hin⟩ (b := Λ.2.2 b.toNat) (As := As.map (sg_cv Λ)) ⟨sg_blind, hpr⟩ rfl (by rw [List.length_map]; exact hn) hl.1 (by show (As.reverse ++ (sg_r b :: S)).map (sg_cv Λ) = _; rw [List.map_append, List.map_reverse, List.map_cons, eb]) (sg_room hcs) hd hf
theorem gk_PI (F : sg_F p s m args meth c own cc nL ret G A) {Qr : Int → Prop} {st : List sg_V} (hr : sg_Rn p l e R s m args below meth c nL G A Λ σ cells slots pc L st S (some .int) 0 0 (sg_PI Λ σ Qr)) (kk : ∀ r : Int, sg_R r → Qr r → sg_W p l e R s m args below meth c Q nL G A Λ σ cells slots (pc + 3) L (sg_i r :: S)) : sg_W p l e R s m args below meth c Q nL G A Λ σ cells slots pc L st := by
  obtain ⟨a, hr⟩ := hr
  refine sg_run F hr (fun v Λ' σ' h _ w _ => by rw [h.1]) (fun v Λ' σ' h _ q _ => by rw [h.1]) (fun v Λ' σ' h _ => ?_)
  obtain ⟨rfl, rfl, r, rfl, h1, h2⟩ := h
  exact kk r h1 h2
theorem gk_PZ (F : sg_F p s m args meth c own cc nL ret G A) {Qr : Int → Prop} {st : List sg_V} (hr : sg_Rn p l e R s m args below meth c nL G A Λ σ cells slots pc L st S (some .boolean) 0 0 (sg_PZ Λ σ Qr)) (kk : ∀ r : Int, sg_B r → Qr r → sg_W p l e R s m args below meth c Q nL G A Λ σ cells slots (pc + 3) L (sg_i r :: S)) : sg_W p l e R s m args below meth c Q nL G A Λ σ cells slots pc L st := by
  obtain ⟨a, hr⟩ := hr
  refine sg_run F hr (fun v Λ' σ' h _ w _ => by rw [h.1]) (fun v Λ' σ' h _ q _ => by rw [h.1]) (fun v Λ' σ' h _ => ?_)
  obtain ⟨rfl, rfl, r, rfl, h1, h2⟩ := h
  exact kk r h1 h2
theorem gk_PJ (F : sg_F p s m args meth c own cc nL ret G A) {Qr : Int → Prop} {st : List sg_V} (hr : sg_Rn p l e R s m args below meth c nL G A Λ σ cells slots pc L st S (some .long) 0 0 (sg_PJ Λ σ Qr)) (kk : ∀ r : Int, sg_R64 r → Qr r → sg_W p l e R s m args below meth c Q nL G A Λ σ cells slots (pc + 3) L (sg_l r :: S)) : sg_W p l e R s m args below meth c Q nL G A Λ σ cells slots pc L st := by
  obtain ⟨a, hr⟩ := hr
  refine sg_run F hr (fun v Λ' σ' h _ w _ => by rw [h.1]) (fun v Λ' σ' h _ q _ => by rw [h.1]) (fun v Λ' σ' h _ => ?_)
  obtain ⟨rfl, rfl, r, rfl, h1, h2⟩ := h
  exact kk r h1 h2
theorem gk_HI (F : sg_F p s m args meth c own cc nL ret G A) {Qr : Int → sg_M → Prop} {st : List sg_V} (hr : sg_Rn p l e R s m args below meth c nL G A Λ σ cells slots pc L st S (some .int) 0 0 (sg_HI Λ Qr)) (kk : ∀ (r : Int) (σ' : sg_M), sg_R r → Qr r σ' → sg_W p l e R s m args below meth c Q nL G A Λ σ' cells slots (pc + 3) L (sg_i r :: S)) : sg_W p l e R s m args below meth c Q nL G A Λ σ cells slots pc L st := by
  obtain ⟨a, hr⟩ := hr
  refine sg_run F hr (fun v Λ' σ' h _ w _ => by rw [h.1]) (fun v Λ' σ' h _ q _ => by rw [h.1]) (fun v Λ' σ' h _ => ?_)
  obtain ⟨rfl, r, rfl, h1, h2⟩ := h
  exact kk r σ' h1 h2
theorem gk_HZ (F : sg_F p s m args meth c own cc nL ret G A) {Qr : Int → sg_M → Prop} {st : List sg_V} (hr : sg_Rn p l e R s m args below meth c nL G A Λ σ cells slots pc L st S (some .boolean) 0 0 (sg_HZ Λ Qr)) (kk : ∀ (r : Int) (σ' : sg_M), sg_B r → Qr r σ' → sg_W p l e R s m args below meth c Q nL G A Λ σ' cells slots (pc + 3) L (sg_i r :: S)) : sg_W p l e R s m args below meth c Q nL G A Λ σ cells slots pc L st := by
  obtain ⟨a, hr⟩ := hr
  refine sg_run F hr (fun v Λ' σ' h _ w _ => by rw [h.1]) (fun v Λ' σ' h _ q _ => by rw [h.1]) (fun v Λ' σ' h _ => ?_)
  obtain ⟨rfl, r, rfl, h1, h2⟩ := h
  exact kk r σ' h1 h2
theorem gk_HV (F : sg_F p s m args meth c own cc nL ret G A) {Qr : sg_M → Prop} {st : List sg_V} (hr : sg_Rn p l e R s m args below meth c nL G A Λ σ cells slots pc L st S none 0 0 (sg_HV Λ Qr)) (kk : ∀ (σ' : sg_M), Qr σ' → sg_W p l e R s m args below meth c Q nL G A Λ σ' cells slots (pc + 3) L S) : sg_W p l e R s m args below meth c Q nL G A Λ σ cells slots pc L st := by
  obtain ⟨a, hr⟩ := hr
  refine sg_run F hr (fun v Λ' σ' h _ w _ => by rw [h.1]) (fun v Λ' σ' h _ q _ => by rw [h.1]) (fun v Λ' σ' h _ => ?_)
  obtain ⟨rfl, h2⟩ := h
  exact kk σ' h2
theorem gk_AI (F : sg_F p s m args meth c own cc nL ret G A) {Qr : Int → sg_L → sg_M → Prop} {st : List sg_V} {mc ms : Nat} (hr : sg_Rn p l e R s m args below meth c nL G A Λ σ cells slots pc L st S (some .int) mc ms (sg_AI Qr)) (hvL : ∀ q ∈ L, sg_vok Λ q.2) (hvS : ∀ q ∈ S, sg_vok Λ q) (kk : ∀ (r : Int) (Λ' : sg_L) (σ' : sg_M), sg_E Λ Λ' → sg_R r → Qr r Λ' σ' → sg_W p l e R s m args below meth c Q nL G A Λ' σ' (cells + mc) (slots + ms) (pc + 3) L (sg_i r :: S)) : sg_W p l e R s m args below meth c Q nL G A Λ σ cells slots pc L st := by
  obtain ⟨a, hr⟩ := hr
  refine sg_run F hr (fun v Λ' σ' _ hE w hw => sg_cv_E hE (hvS w hw)) (fun v Λ' σ' _ hE q hq => sg_cv_E hE (hvL q hq)) (fun v Λ' σ' h hE => ?_)
  obtain ⟨r, rfl, h1, h2⟩ := h
  exact kk r Λ' σ' hE h1 h2
theorem gk_AZ (F : sg_F p s m args meth c own cc nL ret G A) {Qr : Int → sg_L → sg_M → Prop} {st : List sg_V} {mc ms : Nat} (hr : sg_Rn p l e R s m args below meth c nL G A Λ σ cells slots pc L st S (some .boolean) mc ms (sg_AZ Qr)) (hvL : ∀ q ∈ L, sg_vok Λ q.2) (hvS : ∀ q ∈ S, sg_vok Λ q) (kk : ∀ (r : Int) (Λ' : sg_L) (σ' : sg_M), sg_E Λ Λ' → sg_B r → Qr r Λ' σ' → sg_W p l e R s m args below meth c Q nL G A Λ' σ' (cells + mc) (slots + ms) (pc + 3) L (sg_i r :: S)) : sg_W p l e R s m args below meth c Q nL G A Λ σ cells slots pc L st := by
  obtain ⟨a, hr⟩ := hr
  refine sg_run F hr (fun v Λ' σ' _ hE w hw => sg_cv_E hE (hvS w hw)) (fun v Λ' σ' _ hE q hq => sg_cv_E hE (hvL q hq)) (fun v Λ' σ' h hE => ?_)
  obtain ⟨r, rfl, h1, h2⟩ := h
  exact kk r Λ' σ' hE h1 h2
theorem gk_AV (F : sg_F p s m args meth c own cc nL ret G A) {Qr : sg_L → sg_M → Prop} {st : List sg_V} {mc ms : Nat} (hr : sg_Rn p l e R s m args below meth c nL G A Λ σ cells slots pc L st S none mc ms (sg_AV Qr)) (hvL : ∀ q ∈ L, sg_vok Λ q.2) (hvS : ∀ q ∈ S, sg_vok Λ q) (kk : ∀ (Λ' : sg_L) (σ' : sg_M), sg_E Λ Λ' → Qr Λ' σ' → sg_W p l e R s m args below meth c Q nL G A Λ' σ' (cells + mc) (slots + ms) (pc + 3) L S) : sg_W p l e R s m args below meth c Q nL G A Λ σ cells slots pc L st := by
  obtain ⟨a, hr⟩ := hr
  refine sg_run F hr (fun v Λ' σ' _ hE w hw => sg_cv_E hE (hvS w hw)) (fun v Λ' σ' _ hE q hq => sg_cv_E hE (hvL q hq)) (fun v Λ' σ' h hE => ?_)
  exact kk Λ' σ' hE h
theorem gr_PI {Λ0 : sg_L} {mc ms : Nat} (F : sg_F p s m args meth c own cc nL (some .int) G (sg_A Λ0 s.heap.size)) {Qr : Int → Prop} {x : Int} (hx : sg_R x) (hq : Qr x) (hc : cells ≤ mc) (hs : slots ≤ ms) (hd : decode cc pc = .ok (.ireturn, 1)) : sg_W p l e R s m args below meth c (MQ below (sg_Q (some .int) G Λ0 s.heap.size (sg_PI Λ0 σ Qr)) args s mc ms (sg_A Λ0 s.heap.size)) nL G (sg_A Λ0 s.heap.size) Λ0 σ cells slots pc L [sg_i x] :=
  gw_iret F rfl ⟨rfl, rfl, x, rfl, hx, hq⟩ sg_E.rf hc hs hd
theorem gr_PZ {Λ0 : sg_L} {mc ms : Nat} (F : sg_F p s m args meth c own cc nL (some .boolean) G (sg_A Λ0 s.heap.size)) {Qr : Int → Prop} {x : Int} (hx : sg_B x) (hq : Qr x) (hc : cells ≤ mc) (hs : slots ≤ ms) (hd : decode cc pc = .ok (.ireturn, 1)) : sg_W p l e R s m args below meth c (MQ below (sg_Q (some .boolean) G Λ0 s.heap.size (sg_PZ Λ0 σ Qr)) args s mc ms (sg_A Λ0 s.heap.size)) nL G (sg_A Λ0 s.heap.size) Λ0 σ cells slots pc L [sg_i x] :=
  gw_zret F rfl hx ⟨rfl, rfl, x, rfl, hx, hq⟩ sg_E.rf hc hs hd
theorem gr_PJ {Λ0 : sg_L} {mc ms : Nat} (F : sg_F p s m args meth c own cc nL (some .long) G (sg_A Λ0 s.heap.size)) {Qr : Int → Prop} {x : Int} (hx : sg_R64 x) (hq : Qr x) (hc : cells ≤ mc) (hs : slots ≤ ms) (hd : decode cc pc = .ok (.lreturn, 1)) : sg_W p l e R s m args below meth c (MQ below (sg_Q (some .long) G Λ0 s.heap.size (sg_PJ Λ0 σ Qr)) args s mc ms (sg_A Λ0 s.heap.size)) nL G (sg_A Λ0 s.heap.size) Λ0 σ cells slots pc L [sg_l x] :=
  gw_lret F rfl ⟨rfl, rfl, x, rfl, hx, hq⟩ sg_E.rf hc hs hd
theorem gr_HI {Λ0 : sg_L} {mc ms : Nat} (F : sg_F p s m args meth c own cc nL (some .int) G (sg_A Λ0 s.heap.size)) {Qr : Int → sg_M → Prop} {x : Int} (hx : sg_R x) (hq : Qr x σ) (hc : cells ≤ mc) (hs : slots ≤ ms) (hd : decode cc pc = .ok (.ireturn, 1)) : sg_W p l e R s m args below meth c (MQ below (sg_Q (some .int) G Λ0 s.heap.size (sg_HI Λ0 Qr)) args s mc ms (sg_A Λ0 s.heap.size)) nL G (sg_A Λ0 s.heap.size) Λ0 σ cells slots pc L [sg_i x] :=
  gw_iret F rfl ⟨rfl, x, rfl, hx, hq⟩ sg_E.rf hc hs hd
theorem gr_HZ {Λ0 : sg_L} {mc ms : Nat} (F : sg_F p s m args meth c own cc nL (some .boolean) G (sg_A Λ0 s.heap.size)) {Qr : Int → sg_M → Prop} {x : Int} (hx : sg_B x) (hq : Qr x σ) (hc : cells ≤ mc) (hs : slots ≤ ms) (hd : decode cc pc = .ok (.ireturn, 1)) : sg_W p l e R s m args below meth c (MQ below (sg_Q (some .boolean) G Λ0 s.heap.size (sg_HZ Λ0 Qr)) args s mc ms (sg_A Λ0 s.heap.size)) nL G (sg_A Λ0 s.heap.size) Λ0 σ cells slots pc L [sg_i x] :=
  gw_zret F rfl hx ⟨rfl, x, rfl, hx, hq⟩ sg_E.rf hc hs hd
theorem gr_HV {Λ0 : sg_L} {mc ms : Nat} (F : sg_F p s m args meth c own cc nL (none) G (sg_A Λ0 s.heap.size)) {Qr : sg_M → Prop} (hq : Qr σ) (hc : cells ≤ mc) (hs : slots ≤ ms) (hd : decode cc pc = .ok (.return_, 1)) : sg_W p l e R s m args below meth c (MQ below (sg_Q (none) G Λ0 s.heap.size (sg_HV Λ0 Qr)) args s mc ms (sg_A Λ0 s.heap.size)) nL G (sg_A Λ0 s.heap.size) Λ0 σ cells slots pc L [] :=
  gw_vret F rfl ⟨rfl, hq⟩ sg_E.rf hc hs hd
theorem gr_AI {Λ0 : sg_L} {mc ms : Nat} (F : sg_F p s m args meth c own cc nL (some .int) G (sg_A Λ0 s.heap.size)) {Qr : Int → sg_L → sg_M → Prop} {x : Int} (hx : sg_R x) (hq : Qr x Λ σ) (hE : sg_E Λ0 Λ) (hc : cells ≤ mc) (hs : slots ≤ ms) (hd : decode cc pc = .ok (.ireturn, 1)) : sg_W p l e R s m args below meth c (MQ below (sg_Q (some .int) G Λ0 s.heap.size (sg_AI Qr)) args s mc ms (sg_A Λ0 s.heap.size)) nL G (sg_A Λ0 s.heap.size) Λ σ cells slots pc L [sg_i x] :=
  gw_iret F rfl ⟨x, rfl, hx, hq⟩ hE hc hs hd
theorem gr_AZ {Λ0 : sg_L} {mc ms : Nat} (F : sg_F p s m args meth c own cc nL (some .boolean) G (sg_A Λ0 s.heap.size)) {Qr : Int → sg_L → sg_M → Prop} {x : Int} (hx : sg_B x) (hq : Qr x Λ σ) (hE : sg_E Λ0 Λ) (hc : cells ≤ mc) (hs : slots ≤ ms) (hd : decode cc pc = .ok (.ireturn, 1)) : sg_W p l e R s m args below meth c (MQ below (sg_Q (some .boolean) G Λ0 s.heap.size (sg_AZ Qr)) args s mc ms (sg_A Λ0 s.heap.size)) nL G (sg_A Λ0 s.heap.size) Λ σ cells slots pc L [sg_i x] :=
  gw_zret F rfl hx ⟨x, rfl, hx, hq⟩ hE hc hs hd
theorem gr_AV {Λ0 : sg_L} {mc ms : Nat} (F : sg_F p s m args meth c own cc nL (none) G (sg_A Λ0 s.heap.size)) {Qr : sg_L → sg_M → Prop} (hq : Qr Λ σ) (hE : sg_E Λ0 Λ) (hc : cells ≤ mc) (hs : slots ≤ ms) (hd : decode cc pc = .ok (.return_, 1)) : sg_W p l e R s m args below meth c (MQ below (sg_Q (none) G Λ0 s.heap.size (sg_AV Qr)) args s mc ms (sg_A Λ0 s.heap.size)) nL G (sg_A Λ0 s.heap.size) Λ σ cells slots pc L [] :=
  gw_vret F rfl hq hE hc hs hd
theorem gw_nmI {x y : Int} (h : y = x) (k : sg_W p l e R s m args below meth c Q nL G A Λ σ cells slots pc L (sg_i y :: S)) : sg_W p l e R s m args below meth c Q nL G A Λ σ cells slots pc L (sg_i x :: S) := h ▸ k
theorem gw_nmJ {x y : Int} (h : y = x) (k : sg_W p l e R s m args below meth c Q nL G A Λ σ cells slots pc L (sg_l y :: S)) : sg_W p l e R s m args below meth c Q nL G A Λ σ cells slots pc L (sg_l x :: S) := h ▸ k
def sg_pick (L : List (Nat × sg_V)) (ks : List Nat) : List (Nat × sg_V) := ks.filterMap (fun k => L[k]?)
theorem gw_sub (ks : List Nat) (h : sg_pick L ks = L') (k : sg_W p l e R s m args below meth c Q nL G A Λ σ cells slots pc L' S) : sg_W p l e R s m args below meth c Q nL G A Λ σ cells slots pc L S := by
  intro H locs ls hH hS hl
  refine k H locs ls hH hS ⟨hl.1, hl.2.1, fun q hq => hl.2.2 q ?_⟩
  subst h
  obtain ⟨z, hz, rfl⟩ := List.mem_map.mp hq
  obtain ⟨i, -, hi⟩ := List.mem_filterMap.mp hz
  exact List.mem_map.mpr ⟨z, List.mem_of_getElem? hi, rfl⟩
theorem sg_nn {v : Int} {kd : Nat} (h : v = -1 ∨ sg_O Λ v kd) (h0 : 0 ≤ v) : sg_O Λ v kd := h.resolve_left (by omega)
def sg_layL : List Nat := [11, 8, 10540, 9, 27, 1, 10060, 10060, 10060, 10060, 3, 10200, 10200, 5, 4, 10040, 4, 10040, 4, 10040, 2, 4, 10040, 4, 10040, 30004, 40002, 1, 10060, 10060, 10060, 10060, 0, 10060, 10060, 4, 10060, 10, 4, 10060, 10, 4, 10060, 10, 4, 10060, 6, 12400, 4, 10060, 4, 10060, 4, 10040, 4, 10021, 4, 10101, 4, 10040, 4, 10040, 4, 10200, 12, 10540, 12040, 10260, 14080, 10200, 10200, 20002, 10060, 10060, 10060, 10060, 20060, 10005, 10060, 10060, 10040, 10060, 12400, 10060, 10040, 10101, 10021, 10240, 50001]
/-- the cells that the law makes at its start lie where they lie -/
def sg_St (Λ : sg_L) : Prop := ∀ (k kd : Nat), sg_layL[k]? = some kd → k < Λ.1 ∧ Λ.2.1 k = kd
theorem sg_St.O (h : sg_St Λ) (k kd : Nat) (hk : sg_layL[k]? = some kd) : sg_O Λ (k : Int) kd := ⟨by omega, by rw [Int.toNat_natCast]; exact (h k kd hk).1, by rw [Int.toNat_natCast]; exact (h k kd hk).2⟩
theorem sg_B_R {x : Int} (h : sg_B x) : sg_R x := ⟨by omega, by omega⟩
theorem so_0 (h : sg_St Λ) : sg_O Λ 0 11 := h.O 0 11 rfl
theorem so_1 (h : sg_St Λ) : sg_O Λ 1 8 := h.O 1 8 rfl
theorem so_2 (h : sg_St Λ) : sg_O Λ 2 10540 := h.O 2 10540 rfl
theorem sa_2 (h : sg_St Λ) : sg_AN Λ 2 540 := sg_AN_of (so_2 h) (by decide) (by decide) (by decide)
theorem so_3 (h : sg_St Λ) : sg_O Λ 3 9 := h.O 3 9 rfl
theorem so_4 (h : sg_St Λ) : sg_O Λ 4 27 := h.O 4 27 rfl
theorem so_5 (h : sg_St Λ) : sg_O Λ 5 1 := h.O 5 1 rfl
theorem so_6 (h : sg_St Λ) : sg_O Λ 6 10060 := h.O 6 10060 rfl
theorem sa_6 (h : sg_St Λ) : sg_AN Λ 6 60 := sg_AN_of (so_6 h) (by decide) (by decide) (by decide)
theorem so_7 (h : sg_St Λ) : sg_O Λ 7 10060 := h.O 7 10060 rfl
theorem sa_7 (h : sg_St Λ) : sg_AN Λ 7 60 := sg_AN_of (so_7 h) (by decide) (by decide) (by decide)
theorem so_8 (h : sg_St Λ) : sg_O Λ 8 10060 := h.O 8 10060 rfl
theorem sa_8 (h : sg_St Λ) : sg_AN Λ 8 60 := sg_AN_of (so_8 h) (by decide) (by decide) (by decide)
theorem so_9 (h : sg_St Λ) : sg_O Λ 9 10060 := h.O 9 10060 rfl
theorem sa_9 (h : sg_St Λ) : sg_AN Λ 9 60 := sg_AN_of (so_9 h) (by decide) (by decide) (by decide)
theorem so_10 (h : sg_St Λ) : sg_O Λ 10 3 := h.O 10 3 rfl
theorem so_11 (h : sg_St Λ) : sg_O Λ 11 10200 := h.O 11 10200 rfl
theorem sa_11 (h : sg_St Λ) : sg_AN Λ 11 200 := sg_AN_of (so_11 h) (by decide) (by decide) (by decide)
theorem so_12 (h : sg_St Λ) : sg_O Λ 12 10200 := h.O 12 10200 rfl
theorem sa_12 (h : sg_St Λ) : sg_AN Λ 12 200 := sg_AN_of (so_12 h) (by decide) (by decide) (by decide)
theorem so_13 (h : sg_St Λ) : sg_O Λ 13 5 := h.O 13 5 rfl
theorem so_14 (h : sg_St Λ) : sg_O Λ 14 4 := h.O 14 4 rfl
theorem so_15 (h : sg_St Λ) : sg_O Λ 15 10040 := h.O 15 10040 rfl
theorem sa_15 (h : sg_St Λ) : sg_AN Λ 15 40 := sg_AN_of (so_15 h) (by decide) (by decide) (by decide)
theorem so_16 (h : sg_St Λ) : sg_O Λ 16 4 := h.O 16 4 rfl
theorem so_17 (h : sg_St Λ) : sg_O Λ 17 10040 := h.O 17 10040 rfl
theorem sa_17 (h : sg_St Λ) : sg_AN Λ 17 40 := sg_AN_of (so_17 h) (by decide) (by decide) (by decide)
theorem so_18 (h : sg_St Λ) : sg_O Λ 18 4 := h.O 18 4 rfl
theorem so_19 (h : sg_St Λ) : sg_O Λ 19 10040 := h.O 19 10040 rfl
theorem sa_19 (h : sg_St Λ) : sg_AN Λ 19 40 := sg_AN_of (so_19 h) (by decide) (by decide) (by decide)
theorem so_20 (h : sg_St Λ) : sg_O Λ 20 2 := h.O 20 2 rfl
theorem so_21 (h : sg_St Λ) : sg_O Λ 21 4 := h.O 21 4 rfl
theorem so_22 (h : sg_St Λ) : sg_O Λ 22 10040 := h.O 22 10040 rfl
theorem sa_22 (h : sg_St Λ) : sg_AN Λ 22 40 := sg_AN_of (so_22 h) (by decide) (by decide) (by decide)
theorem so_23 (h : sg_St Λ) : sg_O Λ 23 4 := h.O 23 4 rfl
theorem so_24 (h : sg_St Λ) : sg_O Λ 24 10040 := h.O 24 10040 rfl
theorem sa_24 (h : sg_St Λ) : sg_AN Λ 24 40 := sg_AN_of (so_24 h) (by decide) (by decide) (by decide)
theorem so_25 (h : sg_St Λ) : sg_O Λ 25 30004 := h.O 25 30004 rfl
theorem so_26 (h : sg_St Λ) : sg_O Λ 26 40002 := h.O 26 40002 rfl
theorem so_27 (h : sg_St Λ) : sg_O Λ 27 1 := h.O 27 1 rfl
theorem so_28 (h : sg_St Λ) : sg_O Λ 28 10060 := h.O 28 10060 rfl
theorem sa_28 (h : sg_St Λ) : sg_AN Λ 28 60 := sg_AN_of (so_28 h) (by decide) (by decide) (by decide)
theorem so_29 (h : sg_St Λ) : sg_O Λ 29 10060 := h.O 29 10060 rfl
theorem sa_29 (h : sg_St Λ) : sg_AN Λ 29 60 := sg_AN_of (so_29 h) (by decide) (by decide) (by decide)
theorem so_30 (h : sg_St Λ) : sg_O Λ 30 10060 := h.O 30 10060 rfl
theorem sa_30 (h : sg_St Λ) : sg_AN Λ 30 60 := sg_AN_of (so_30 h) (by decide) (by decide) (by decide)
theorem so_31 (h : sg_St Λ) : sg_O Λ 31 10060 := h.O 31 10060 rfl
theorem sa_31 (h : sg_St Λ) : sg_AN Λ 31 60 := sg_AN_of (so_31 h) (by decide) (by decide) (by decide)
theorem so_32 (h : sg_St Λ) : sg_O Λ 32 0 := h.O 32 0 rfl
theorem so_33 (h : sg_St Λ) : sg_O Λ 33 10060 := h.O 33 10060 rfl
theorem sa_33 (h : sg_St Λ) : sg_AN Λ 33 60 := sg_AN_of (so_33 h) (by decide) (by decide) (by decide)
theorem so_34 (h : sg_St Λ) : sg_O Λ 34 10060 := h.O 34 10060 rfl
theorem sa_34 (h : sg_St Λ) : sg_AN Λ 34 60 := sg_AN_of (so_34 h) (by decide) (by decide) (by decide)
theorem so_35 (h : sg_St Λ) : sg_O Λ 35 4 := h.O 35 4 rfl
theorem so_36 (h : sg_St Λ) : sg_O Λ 36 10060 := h.O 36 10060 rfl
theorem sa_36 (h : sg_St Λ) : sg_AN Λ 36 60 := sg_AN_of (so_36 h) (by decide) (by decide) (by decide)
theorem so_37 (h : sg_St Λ) : sg_O Λ 37 10 := h.O 37 10 rfl
theorem so_38 (h : sg_St Λ) : sg_O Λ 38 4 := h.O 38 4 rfl
theorem so_39 (h : sg_St Λ) : sg_O Λ 39 10060 := h.O 39 10060 rfl
theorem sa_39 (h : sg_St Λ) : sg_AN Λ 39 60 := sg_AN_of (so_39 h) (by decide) (by decide) (by decide)
theorem so_40 (h : sg_St Λ) : sg_O Λ 40 10 := h.O 40 10 rfl
theorem so_41 (h : sg_St Λ) : sg_O Λ 41 4 := h.O 41 4 rfl
theorem so_42 (h : sg_St Λ) : sg_O Λ 42 10060 := h.O 42 10060 rfl
theorem sa_42 (h : sg_St Λ) : sg_AN Λ 42 60 := sg_AN_of (so_42 h) (by decide) (by decide) (by decide)
theorem so_43 (h : sg_St Λ) : sg_O Λ 43 10 := h.O 43 10 rfl
theorem so_44 (h : sg_St Λ) : sg_O Λ 44 4 := h.O 44 4 rfl
theorem so_45 (h : sg_St Λ) : sg_O Λ 45 10060 := h.O 45 10060 rfl
theorem sa_45 (h : sg_St Λ) : sg_AN Λ 45 60 := sg_AN_of (so_45 h) (by decide) (by decide) (by decide)
theorem so_46 (h : sg_St Λ) : sg_O Λ 46 6 := h.O 46 6 rfl
theorem so_47 (h : sg_St Λ) : sg_O Λ 47 12400 := h.O 47 12400 rfl
theorem sa_47 (h : sg_St Λ) : sg_AN Λ 47 2400 := sg_AN_of (so_47 h) (by decide) (by decide) (by decide)
theorem so_48 (h : sg_St Λ) : sg_O Λ 48 4 := h.O 48 4 rfl
theorem so_49 (h : sg_St Λ) : sg_O Λ 49 10060 := h.O 49 10060 rfl
theorem sa_49 (h : sg_St Λ) : sg_AN Λ 49 60 := sg_AN_of (so_49 h) (by decide) (by decide) (by decide)
theorem so_50 (h : sg_St Λ) : sg_O Λ 50 4 := h.O 50 4 rfl
theorem so_51 (h : sg_St Λ) : sg_O Λ 51 10060 := h.O 51 10060 rfl
theorem sa_51 (h : sg_St Λ) : sg_AN Λ 51 60 := sg_AN_of (so_51 h) (by decide) (by decide) (by decide)
theorem so_52 (h : sg_St Λ) : sg_O Λ 52 4 := h.O 52 4 rfl
theorem so_53 (h : sg_St Λ) : sg_O Λ 53 10040 := h.O 53 10040 rfl
theorem sa_53 (h : sg_St Λ) : sg_AN Λ 53 40 := sg_AN_of (so_53 h) (by decide) (by decide) (by decide)
theorem so_54 (h : sg_St Λ) : sg_O Λ 54 4 := h.O 54 4 rfl
theorem so_55 (h : sg_St Λ) : sg_O Λ 55 10021 := h.O 55 10021 rfl
theorem sa_55 (h : sg_St Λ) : sg_AN Λ 55 21 := sg_AN_of (so_55 h) (by decide) (by decide) (by decide)
theorem so_56 (h : sg_St Λ) : sg_O Λ 56 4 := h.O 56 4 rfl
theorem so_57 (h : sg_St Λ) : sg_O Λ 57 10101 := h.O 57 10101 rfl
theorem sa_57 (h : sg_St Λ) : sg_AN Λ 57 101 := sg_AN_of (so_57 h) (by decide) (by decide) (by decide)
theorem so_58 (h : sg_St Λ) : sg_O Λ 58 4 := h.O 58 4 rfl
theorem so_59 (h : sg_St Λ) : sg_O Λ 59 10040 := h.O 59 10040 rfl
theorem sa_59 (h : sg_St Λ) : sg_AN Λ 59 40 := sg_AN_of (so_59 h) (by decide) (by decide) (by decide)
theorem so_60 (h : sg_St Λ) : sg_O Λ 60 4 := h.O 60 4 rfl
theorem so_61 (h : sg_St Λ) : sg_O Λ 61 10040 := h.O 61 10040 rfl
theorem sa_61 (h : sg_St Λ) : sg_AN Λ 61 40 := sg_AN_of (so_61 h) (by decide) (by decide) (by decide)
theorem so_62 (h : sg_St Λ) : sg_O Λ 62 4 := h.O 62 4 rfl
theorem so_63 (h : sg_St Λ) : sg_O Λ 63 10200 := h.O 63 10200 rfl
theorem sa_63 (h : sg_St Λ) : sg_AN Λ 63 200 := sg_AN_of (so_63 h) (by decide) (by decide) (by decide)
theorem so_64 (h : sg_St Λ) : sg_O Λ 64 12 := h.O 64 12 rfl
theorem so_65 (h : sg_St Λ) : sg_O Λ 65 10540 := h.O 65 10540 rfl
theorem sa_65 (h : sg_St Λ) : sg_AN Λ 65 540 := sg_AN_of (so_65 h) (by decide) (by decide) (by decide)
theorem so_66 (h : sg_St Λ) : sg_O Λ 66 12040 := h.O 66 12040 rfl
theorem sa_66 (h : sg_St Λ) : sg_AN Λ 66 2040 := sg_AN_of (so_66 h) (by decide) (by decide) (by decide)
theorem so_67 (h : sg_St Λ) : sg_O Λ 67 10260 := h.O 67 10260 rfl
theorem sa_67 (h : sg_St Λ) : sg_AN Λ 67 260 := sg_AN_of (so_67 h) (by decide) (by decide) (by decide)
theorem so_68 (h : sg_St Λ) : sg_O Λ 68 14080 := h.O 68 14080 rfl
theorem sa_68 (h : sg_St Λ) : sg_AN Λ 68 4080 := sg_AN_of (so_68 h) (by decide) (by decide) (by decide)
theorem so_69 (h : sg_St Λ) : sg_O Λ 69 10200 := h.O 69 10200 rfl
theorem sa_69 (h : sg_St Λ) : sg_AN Λ 69 200 := sg_AN_of (so_69 h) (by decide) (by decide) (by decide)
theorem so_70 (h : sg_St Λ) : sg_O Λ 70 10200 := h.O 70 10200 rfl
theorem sa_70 (h : sg_St Λ) : sg_AN Λ 70 200 := sg_AN_of (so_70 h) (by decide) (by decide) (by decide)
theorem so_71 (h : sg_St Λ) : sg_O Λ 71 20002 := h.O 71 20002 rfl
theorem so_72 (h : sg_St Λ) : sg_O Λ 72 10060 := h.O 72 10060 rfl
theorem sa_72 (h : sg_St Λ) : sg_AN Λ 72 60 := sg_AN_of (so_72 h) (by decide) (by decide) (by decide)
theorem so_73 (h : sg_St Λ) : sg_O Λ 73 10060 := h.O 73 10060 rfl
theorem sa_73 (h : sg_St Λ) : sg_AN Λ 73 60 := sg_AN_of (so_73 h) (by decide) (by decide) (by decide)
theorem so_74 (h : sg_St Λ) : sg_O Λ 74 10060 := h.O 74 10060 rfl
theorem sa_74 (h : sg_St Λ) : sg_AN Λ 74 60 := sg_AN_of (so_74 h) (by decide) (by decide) (by decide)
theorem so_75 (h : sg_St Λ) : sg_O Λ 75 10060 := h.O 75 10060 rfl
theorem sa_75 (h : sg_St Λ) : sg_AN Λ 75 60 := sg_AN_of (so_75 h) (by decide) (by decide) (by decide)
theorem so_76 (h : sg_St Λ) : sg_O Λ 76 20060 := h.O 76 20060 rfl
theorem so_77 (h : sg_St Λ) : sg_O Λ 77 10005 := h.O 77 10005 rfl
theorem sa_77 (h : sg_St Λ) : sg_AN Λ 77 5 := sg_AN_of (so_77 h) (by decide) (by decide) (by decide)
theorem so_78 (h : sg_St Λ) : sg_O Λ 78 10060 := h.O 78 10060 rfl
theorem sa_78 (h : sg_St Λ) : sg_AN Λ 78 60 := sg_AN_of (so_78 h) (by decide) (by decide) (by decide)
theorem so_79 (h : sg_St Λ) : sg_O Λ 79 10060 := h.O 79 10060 rfl
theorem sa_79 (h : sg_St Λ) : sg_AN Λ 79 60 := sg_AN_of (so_79 h) (by decide) (by decide) (by decide)
theorem so_80 (h : sg_St Λ) : sg_O Λ 80 10040 := h.O 80 10040 rfl
theorem sa_80 (h : sg_St Λ) : sg_AN Λ 80 40 := sg_AN_of (so_80 h) (by decide) (by decide) (by decide)
theorem so_81 (h : sg_St Λ) : sg_O Λ 81 10060 := h.O 81 10060 rfl
theorem sa_81 (h : sg_St Λ) : sg_AN Λ 81 60 := sg_AN_of (so_81 h) (by decide) (by decide) (by decide)
theorem so_82 (h : sg_St Λ) : sg_O Λ 82 12400 := h.O 82 12400 rfl
theorem sa_82 (h : sg_St Λ) : sg_AN Λ 82 2400 := sg_AN_of (so_82 h) (by decide) (by decide) (by decide)
theorem so_83 (h : sg_St Λ) : sg_O Λ 83 10060 := h.O 83 10060 rfl
theorem sa_83 (h : sg_St Λ) : sg_AN Λ 83 60 := sg_AN_of (so_83 h) (by decide) (by decide) (by decide)
theorem so_84 (h : sg_St Λ) : sg_O Λ 84 10040 := h.O 84 10040 rfl
theorem sa_84 (h : sg_St Λ) : sg_AN Λ 84 40 := sg_AN_of (so_84 h) (by decide) (by decide) (by decide)
theorem so_85 (h : sg_St Λ) : sg_O Λ 85 10101 := h.O 85 10101 rfl
theorem sa_85 (h : sg_St Λ) : sg_AN Λ 85 101 := sg_AN_of (so_85 h) (by decide) (by decide) (by decide)
theorem so_86 (h : sg_St Λ) : sg_O Λ 86 10021 := h.O 86 10021 rfl
theorem sa_86 (h : sg_St Λ) : sg_AN Λ 86 21 := sg_AN_of (so_86 h) (by decide) (by decide) (by decide)
theorem so_87 (h : sg_St Λ) : sg_O Λ 87 10240 := h.O 87 10240 rfl
theorem sa_87 (h : sg_St Λ) : sg_AN Λ 87 240 := sg_AN_of (so_87 h) (by decide) (by decide) (by decide)
theorem so_88 (h : sg_St Λ) : sg_O Λ 88 50001 := h.O 88 50001 rfl
end SGK
