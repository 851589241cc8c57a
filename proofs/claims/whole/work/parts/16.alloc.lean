section SGAL
variable {p : Program} {l : Launch} {e : Env} {R : Room} {s : State} {m : MethodId} {args : Array Value} {below : List Frame} {meth : Method} {c : Code} {Q : State → Prop} {G : sg_G} {A : Nat → Prop} {Λ : sg_L} {σ σ1 : sg_M} {cells slots : Nat} {own : String} {cc : ByteArray} {nL : Nat} {ret : Option FieldType} {pc : Nat} {L L' : List (Nat × sg_V)} {S : List sg_V}
/-- more cells, the old ones as they were -/
def sg_X (Λ Λ' : sg_L) : Prop := Λ.1 ≤ Λ'.1 ∧ (∀ k : Nat, k < Λ.1 → Λ'.2.2 k = Λ.2.2 k) ∧ ∀ k : Nat, k < Λ.1 → Λ'.2.1 k = Λ.2.1 k
theorem sg_X.rf : sg_X Λ Λ := ⟨Nat.le_refl _, fun _ _ => rfl, fun _ _ => rfl⟩
theorem sg_X.tr {a b c : sg_L} (h1 : sg_X a b) (h2 : sg_X b c) : sg_X a c := ⟨Nat.le_trans h1.1 h2.1, fun k hk => by rw [h2.2.1 k (Nat.lt_of_lt_of_le hk h1.1), h1.2.1 k hk], fun k hk => by rw [h2.2.2 k (Nat.lt_of_lt_of_le hk h1.1), h1.2.2 k hk]⟩
theorem sg_X.E {a b : sg_L} (h : sg_X a b) : sg_E a b := ⟨h.1, h.2.1⟩
theorem sg_X.se {a b : sg_L} {o kd : Nat} (h : sg_X (sg_se a o kd) b) : sg_E a b := ⟨h.1, h.2.1⟩
theorem sg_X.pu {kd q : Nat} : sg_X Λ (sg_pu Λ kd q) := ⟨Nat.le_succ _, sg_pu_E.2, fun _ hk => sg_pu_kd hk⟩
theorem sg_X.both {a b : sg_L} {o kd : Nat} (h : sg_X a b) : sg_X (sg_se a o kd) (sg_se b o kd) := ⟨h.1, h.2.1, fun k hk => by
  show va_up b.2.1 o kd k = va_up a.2.1 o kd k
  unfold va_up
  split
  · rfl
  · exact h.2.2 k hk⟩
theorem sg_O.X {Λ' : sg_L} {o : Int} {k : Nat} (h : sg_O Λ o k) (hX : sg_X Λ Λ') : sg_O Λ' o k := ⟨h.1, Nat.lt_of_lt_of_le h.2.1 hX.1, by rw [hX.2.2 _ h.2.1]; exact h.2.2⟩
theorem sg_AN.X {Λ' : sg_L} {o n : Int} (h : sg_AN Λ o n) (hX : sg_X Λ Λ') : sg_AN Λ' o n := ⟨h.1, Nat.lt_of_lt_of_le h.2.1 hX.1, by rw [hX.2.2 _ h.2.1]; exact h.2.2⟩
theorem sg_St.X {Λ' : sg_L} (h : sg_St Λ) (hX : sg_X Λ Λ') : sg_St Λ' := fun k kd hk => ⟨Nat.lt_of_lt_of_le (h k kd hk).1 hX.1, by rw [hX.2.2 _ (h k kd hk).1]; exact (h k kd hk).2⟩
theorem sg_nul.X {Λ' : sg_L} {o : Int} {k : Nat} (h : o = -1 ∨ sg_O Λ o k) (hX : sg_X Λ Λ') : o = -1 ∨ sg_O Λ' o k := h.imp id (fun z => z.X hX)
theorem sg_O_sx {o r : Int} {k kd kd' : Nat} (h : sg_O Λ r k) (ho : sg_O Λ o kd) (hne : k ≠ kd) : sg_O (sg_se Λ o.toNat kd') r k := sg_O_se h (fun e => hne (by rw [← h.2.2, ← ho.2.2, e]))
theorem sg_AN_sx {o r n : Int} {kd kd' : Nat} (h : sg_AN Λ r n) (ho : sg_O Λ o kd) (hne : kd < 10000) : sg_AN (sg_se Λ o.toNat kd') r n := by
  have e : r.toNat ≠ o.toNat := fun e => by
    have h1 := h.2.2.1
    rw [e, ho.2.2] at h1
    omega
  refine ⟨h.1, h.2.1, ?_⟩
  show 10000 ≤ va_up Λ.2.1 o.toNat kd' r.toNat ∧ va_up Λ.2.1 o.toNat kd' r.toNat < 20000 ∧ ((va_up Λ.2.1 o.toNat kd' r.toNat : Nat) : Int) = 10000 + n
  unfold va_up
  rw [if_neg e]
  exact h.2.2
theorem sg_nul_sx {o r : Int} {k kd kd' : Nat} (h : r = -1 ∨ sg_O Λ r k) (ho : sg_O Λ o kd) (hne : k ≠ kd) : r = -1 ∨ sg_O (sg_se Λ o.toNat kd') r k := h.imp id (fun z => sg_O_sx z ho hne)
theorem sg_layL_raw : ∀ kd ∈ sg_layL, kd < 20 ∨ kd = 27 ∨ 10000 ≤ kd := by decide +kernel
theorem sg_St_sx {o : Int} {kd kd' : Nat} (h : sg_St Λ) (ho : sg_O Λ o kd) (hr : 20 ≤ kd ∧ kd < 100 ∧ kd ≠ 27) : sg_St (sg_se Λ o.toNat kd') := by
  intro k kd0 hk
  have h1 := h k kd0 hk
  have h2 := sg_layL_raw kd0 (List.mem_of_getElem? hk)
  refine ⟨h1.1, ?_⟩
  show va_up Λ.2.1 o.toNat kd' k = kd0
  unfold va_up
  rw [if_neg (fun e => by rw [← h1.2, e, ho.2.2] at h2; omega)]
  exact h1.2
def sg_BI (Λ : sg_L) (Q : Int → sg_L → sg_M → Prop) : sg_V → sg_L → sg_M → Prop := fun v Λ' σ' => sg_X Λ Λ' ∧ ∃ r : Int, v = sg_i r ∧ sg_R r ∧ Q r Λ' σ'
def sg_BZ (Λ : sg_L) (Q : Int → sg_L → sg_M → Prop) : sg_V → sg_L → sg_M → Prop := fun v Λ' σ' => sg_X Λ Λ' ∧ ∃ r : Int, v = sg_i r ∧ sg_B r ∧ Q r Λ' σ'
def sg_BV (Λ : sg_L) (Q : sg_L → sg_M → Prop) : sg_V → sg_L → sg_M → Prop := fun _ Λ' σ' => sg_X Λ Λ' ∧ Q Λ' σ'
/-- a constructor: behind it o is made -/
def sg_sealed (Λ : sg_L) (σ : sg_M) (o : Int) (kd kd' : Nat) : Prop := (∀ ad : Nat → Nat, sg_fs ad (σ o) o.toNat (sg_dsc kd) = sg_fs ad (σ o) o.toNat (sg_dsc kd')) ∧ ∀ (j : Nat) (d : Nat × Nat × Nat), (sg_dsc kd')[j]? = some d → sg_okS (sg_se Λ o.toNat kd') o.toNat (σ o j) d
theorem gk_BI (F : sg_F p s m args meth c own cc nL ret G A) {Qr : Int → sg_L → sg_M → Prop} {st : List sg_V} {mc ms : Nat} (hr : sg_Rn p l e R s m args below meth c nL G A Λ σ cells slots pc L st S (some .int) mc ms (sg_BI Λ Qr)) (hvL : ∀ q ∈ L, sg_vok Λ q.2) (hvS : ∀ q ∈ S, sg_vok Λ q) (kk : ∀ (r : Int) (Λ' : sg_L) (σ' : sg_M), sg_X Λ Λ' → sg_R r → Qr r Λ' σ' → sg_W p l e R s m args below meth c Q nL G A Λ' σ' (cells + mc) (slots + ms) (pc + 3) L (sg_i r :: S)) : sg_W p l e R s m args below meth c Q nL G A Λ σ cells slots pc L st := by
  obtain ⟨a, hr⟩ := hr
  refine sg_run F hr (fun v Λ' σ' _ hE w hw => sg_cv_E hE (hvS w hw)) (fun v Λ' σ' _ hE q hq => sg_cv_E hE (hvL q hq)) (fun v Λ' σ' h hE => ?_)
  obtain ⟨hX, r, rfl, h1, h2⟩ := h
  exact kk r Λ' σ' hX h1 h2
theorem gk_BZ (F : sg_F p s m args meth c own cc nL ret G A) {Qr : Int → sg_L → sg_M → Prop} {st : List sg_V} {mc ms : Nat} (hr : sg_Rn p l e R s m args below meth c nL G A Λ σ cells slots pc L st S (some .boolean) mc ms (sg_BZ Λ Qr)) (hvL : ∀ q ∈ L, sg_vok Λ q.2) (hvS : ∀ q ∈ S, sg_vok Λ q) (kk : ∀ (r : Int) (Λ' : sg_L) (σ' : sg_M), sg_X Λ Λ' → sg_B r → Qr r Λ' σ' → sg_W p l e R s m args below meth c Q nL G A Λ' σ' (cells + mc) (slots + ms) (pc + 3) L (sg_i r :: S)) : sg_W p l e R s m args below meth c Q nL G A Λ σ cells slots pc L st := by
  obtain ⟨a, hr⟩ := hr
  refine sg_run F hr (fun v Λ' σ' _ hE w hw => sg_cv_E hE (hvS w hw)) (fun v Λ' σ' _ hE q hq => sg_cv_E hE (hvL q hq)) (fun v Λ' σ' h hE => ?_)
  obtain ⟨hX, r, rfl, h1, h2⟩ := h
  exact kk r Λ' σ' hX h1 h2
theorem gk_BV (F : sg_F p s m args meth c own cc nL ret G A) {Qr : sg_L → sg_M → Prop} {Λ0 : sg_L} {st : List sg_V} {mc ms : Nat} (hr : sg_Rn p l e R s m args below meth c nL G A Λ σ cells slots pc L st S none mc ms (sg_BV Λ0 Qr)) (hvL : ∀ q ∈ L, sg_vok Λ q.2) (hvS : ∀ q ∈ S, sg_vok Λ q) (kk : ∀ (Λ' : sg_L) (σ' : sg_M), sg_X Λ0 Λ' → Qr Λ' σ' → sg_W p l e R s m args below meth c Q nL G A Λ' σ' (cells + mc) (slots + ms) (pc + 3) L S) : sg_W p l e R s m args below meth c Q nL G A Λ σ cells slots pc L st := by
  obtain ⟨a, hr⟩ := hr
  refine sg_run F hr (fun v Λ' σ' _ hE w hw => sg_cv_E hE (hvS w hw)) (fun v Λ' σ' _ hE q hq => sg_cv_E hE (hvL q hq)) (fun v Λ' σ' h hE => ?_)
  exact kk Λ' σ' h.1 h.2
theorem gr_BI {Λ0 : sg_L} {mc ms : Nat} (F : sg_F p s m args meth c own cc nL (some .int) G (sg_A Λ0 s.heap.size)) {Qr : Int → sg_L → sg_M → Prop} {x : Int} (hx : sg_R x) (hq : Qr x Λ σ) (hX : sg_X Λ0 Λ) (hc : cells ≤ mc) (hs : slots ≤ ms) (hd : decode cc pc = .ok (.ireturn, 1)) : sg_W p l e R s m args below meth c (MQ below (sg_Q (some .int) G Λ0 s.heap.size (sg_BI Λ0 Qr)) args s mc ms (sg_A Λ0 s.heap.size)) nL G (sg_A Λ0 s.heap.size) Λ σ cells slots pc L [sg_i x] := gw_iret F rfl ⟨hX, x, rfl, hx, hq⟩ hX.E hc hs hd
theorem gr_BZ {Λ0 : sg_L} {mc ms : Nat} (F : sg_F p s m args meth c own cc nL (some .boolean) G (sg_A Λ0 s.heap.size)) {Qr : Int → sg_L → sg_M → Prop} {x : Int} (hx : sg_B x) (hq : Qr x Λ σ) (hX : sg_X Λ0 Λ) (hc : cells ≤ mc) (hs : slots ≤ ms) (hd : decode cc pc = .ok (.ireturn, 1)) : sg_W p l e R s m args below meth c (MQ below (sg_Q (some .boolean) G Λ0 s.heap.size (sg_BZ Λ0 Qr)) args s mc ms (sg_A Λ0 s.heap.size)) nL G (sg_A Λ0 s.heap.size) Λ σ cells slots pc L [sg_i x] := gw_zret F rfl hx ⟨hX, x, rfl, hx, hq⟩ hX.E hc hs hd
theorem gr_BV {Λ0 : sg_L} {mc ms : Nat} (F : sg_F p s m args meth c own cc nL (none) G (sg_A Λ0 s.heap.size)) {Qr : sg_L → sg_M → Prop} (hq : Qr Λ σ) (hX : sg_X Λ0 Λ) (hc : cells ≤ mc) (hs : slots ≤ ms) (hd : decode cc pc = .ok (.return_, 1)) : sg_W p l e R s m args below meth c (MQ below (sg_Q (none) G Λ0 s.heap.size (sg_BV Λ0 Qr)) args s mc ms (sg_A Λ0 s.heap.size)) nL G (sg_A Λ0 s.heap.size) Λ σ cells slots pc L [] := gw_vret F rfl ⟨hX, hq⟩ hX.E hc hs hd
theorem gr_BC {Λ0 : sg_L} {mc ms : Nat} (F : sg_F p s m args meth c own cc nL (none) G (sg_A Λ0 s.heap.size)) {Qr : sg_L → sg_M → Prop} {o kd : Nat} (hq : Qr Λ σ) (hX : sg_X (sg_se Λ0 o kd) Λ) (hc : cells ≤ mc) (hs : slots ≤ ms) (hd : decode cc pc = .ok (.return_, 1)) : sg_W p l e R s m args below meth c (MQ below (sg_Q (none) G Λ0 s.heap.size (sg_BV (sg_se Λ0 o kd) Qr)) args s mc ms (sg_A Λ0 s.heap.size)) nL G (sg_A Λ0 s.heap.size) Λ σ cells slots pc L [] := gw_vret F rfl ⟨hX, hq⟩ hX.se hc hs hd
theorem gy_new (F : sg_F p s m args meth c own cc nL ret G A) {kd idx N : Nat} {C : String} {T : u_T} {ty : Nat → FieldType} {fs : List Value} (hkd : kd < 100) (hcl : vwCl[kd % 20]? = some (C, T, N)) (hlay : ∀ w ∈ u_ws C T N, w ∈ sg_W0) (hty : ∀ k, k < N → parseFieldDescriptor (T k).2.2.1 = some (ty k)) (hclk : Cond.classLink own idx C ∈ sg_W0) (hinst : Cond.instantiable C N ∈ sg_W0) (hini : Cond.initialized C ∈ sg_W0)
    (hfs : ∀ (ad : Nat → Nat) (n : Nat), sg_fs ad (sg_zero kd) n (sg_dsc kd) = fs) (hfd : ∀ j, j < N → defaultValue (ty j) = vp_V fs j) (hn : ∀ d ∈ sg_dsc kd, d.1 ≠ 3 ∧ d.1 ≠ 7) (hcells : cells + 1 ≤ R.cells) (hslots : slots + N ≤ R.slots) (hvL : ∀ q ∈ L, sg_vok Λ q.2) (hvS : ∀ q ∈ S, sg_vok Λ q) (hd : decode cc pc = .ok (.new idx, 3))
    (k : ∀ (q : Nat) (Λ1 : sg_L) (σ1 : sg_M) (o1 : Int), Λ1 = sg_pu Λ kd q → σ1 = sg_nw σ Λ.1 kd → o1 = (Λ.1 : Int) → sg_O Λ1 o1 kd → sg_X Λ Λ1 → sg_W p l e R s m args below meth c Q nL G A Λ1 σ1 (cells + 1) (slots + N) (pc + 3) L (sg_r o1 :: S)) : sg_W p l e R s m args below meth c Q nL G A Λ σ cells slots pc L S :=
  gw_new F hkd hcl hlay hty hclk hinst hini hfs hfd hn hcells hslots hvL hvS hd (fun q => k q _ _ _ rfl rfl rfl sg_O_new sg_X.pu)
theorem gy_newI (F : sg_F p s m args meth c own cc nL ret G A) {n : Int} {N : Nat} (hw : Cond.arrayClass .int ∈ sg_W0) (hN : (N : Int) = n) (hb1 : N ≤ 9999) (hcells : cells + 1 ≤ R.cells) (hslots : slots + N ≤ R.slots) (hvL : ∀ q ∈ L, sg_vok Λ q.2) (hvS : ∀ q ∈ S, sg_vok Λ q) (hd : decode cc pc = .ok (.newarray .int, 2))
    (k : ∀ (q : Nat) (Λ1 : sg_L) (σ1 : sg_M) (o1 : Int), Λ1 = sg_pu Λ (10000 + N) q → σ1 = sg_nw σ Λ.1 (10000 + N) → o1 = (Λ.1 : Int) → sg_O Λ1 o1 (10000 + N) → sg_X Λ Λ1 → sg_W p l e R s m args below meth c Q nL G A Λ1 σ1 (cells + 1) (slots + N) (pc + 2) L (sg_r o1 :: S)) : sg_W p l e R s m args below meth c Q nL G A Λ σ cells slots pc L (sg_i n :: S) :=
  gw_newI F hw hN hb1 hcells hslots hvL hvS hd (fun q => k q _ _ _ rfl rfl rfl sg_O_new sg_X.pu)
theorem gy_newZ (F : sg_F p s m args meth c own cc nL ret G A) {n : Int} {N : Nat} (hw : Cond.arrayClass .boolean ∈ sg_W0) (hN : (N : Int) = n) (hb1 : N ≤ 9999) (hcells : cells + 1 ≤ R.cells) (hslots : slots + N ≤ R.slots) (hvL : ∀ q ∈ L, sg_vok Λ q.2) (hvS : ∀ q ∈ S, sg_vok Λ q) (hd : decode cc pc = .ok (.newarray .boolean, 2))
    (k : ∀ (q : Nat) (Λ1 : sg_L) (σ1 : sg_M) (o1 : Int), Λ1 = sg_pu Λ (20000 + N) q → σ1 = sg_nw σ Λ.1 (20000 + N) → o1 = (Λ.1 : Int) → sg_O Λ1 o1 (20000 + N) → sg_X Λ Λ1 → sg_W p l e R s m args below meth c Q nL G A Λ1 σ1 (cells + 1) (slots + N) (pc + 2) L (sg_r o1 :: S)) : sg_W p l e R s m args below meth c Q nL G A Λ σ cells slots pc L (sg_i n :: S) :=
  gw_newZ F hw hN hb1 hcells hslots hvL hvS hd (fun q => k q _ _ _ rfl rfl rfl sg_O_new sg_X.pu)
theorem gy_newJ (F : sg_F p s m args meth c own cc nL ret G A) {n : Int} {N : Nat} (hw : Cond.arrayClass .long ∈ sg_W0) (hN : (N : Int) = n) (hb1 : N ≤ 9999) (hcells : cells + 1 ≤ R.cells) (hslots : slots + N ≤ R.slots) (hvL : ∀ q ∈ L, sg_vok Λ q.2) (hvS : ∀ q ∈ S, sg_vok Λ q) (hd : decode cc pc = .ok (.newarray .long, 2))
    (k : ∀ (q : Nat) (Λ1 : sg_L) (σ1 : sg_M) (o1 : Int), Λ1 = sg_pu Λ (50000 + N) q → σ1 = sg_nw σ Λ.1 (50000 + N) → o1 = (Λ.1 : Int) → sg_O Λ1 o1 (50000 + N) → sg_X Λ Λ1 → sg_W p l e R s m args below meth c Q nL G A Λ1 σ1 (cells + 1) (slots + N) (pc + 2) L (sg_r o1 :: S)) : sg_W p l e R s m args below meth c Q nL G A Λ σ cells slots pc L (sg_i n :: S) :=
  gw_newJ F hw hN hb1 hcells hslots hvL hvS hd (fun q => k q _ _ _ rfl rfl rfl sg_O_new sg_X.pu)
theorem gy_newB (F : sg_F p s m args meth c own cc nL ret G A) {n : Int} {N idx : Nat} (hclk : Cond.classLink own idx RX1 ∈ sg_W0) (hover : va_AO RX1 s) (hN : (N : Int) = n) (hb1 : N ≤ 9999) (hcells : cells + 1 ≤ R.cells) (hslots : slots + N ≤ R.slots) (hvL : ∀ q ∈ L, sg_vok Λ q.2) (hvS : ∀ q ∈ S, sg_vok Λ q) (hd : decode cc pc = .ok (.anewarray idx, 3))
    (k : ∀ (q : Nat) (Λ1 : sg_L) (σ1 : sg_M) (o1 : Int), Λ1 = sg_pu Λ (30000 + N) q → σ1 = sg_nw σ Λ.1 (30000 + N) → o1 = (Λ.1 : Int) → sg_O Λ1 o1 (30000 + N) → sg_X Λ Λ1 → sg_W p l e R s m args below meth c Q nL G A Λ1 σ1 (cells + 1) (slots + N) (pc + 3) L (sg_r o1 :: S)) : sg_W p l e R s m args below meth c Q nL G A Λ σ cells slots pc L (sg_i n :: S) :=
  gw_newB F hclk hover hN hb1 hcells hslots hvL hvS hd (fun q => k q _ _ _ rfl rfl rfl sg_O_new sg_X.pu)
theorem gy_newT (F : sg_F p s m args meth c own cc nL ret G A) {n : Int} {N idx : Nat} (hclk : Cond.classLink own idx RX7 ∈ sg_W0) (hover : va_AO RX7 s) (hN : (N : Int) = n) (hb1 : N ≤ 9999) (hcells : cells + 1 ≤ R.cells) (hslots : slots + N ≤ R.slots) (hvL : ∀ q ∈ L, sg_vok Λ q.2) (hvS : ∀ q ∈ S, sg_vok Λ q) (hd : decode cc pc = .ok (.anewarray idx, 3))
    (k : ∀ (q : Nat) (Λ1 : sg_L) (σ1 : sg_M) (o1 : Int), Λ1 = sg_pu Λ (40000 + N) q → σ1 = sg_nw σ Λ.1 (40000 + N) → o1 = (Λ.1 : Int) → sg_O Λ1 o1 (40000 + N) → sg_X Λ Λ1 → sg_W p l e R s m args below meth c Q nL G A Λ1 σ1 (cells + 1) (slots + N) (pc + 3) L (sg_r o1 :: S)) : sg_W p l e R s m args below meth c Q nL G A Λ σ cells slots pc L (sg_i n :: S) :=
  gw_newT F hclk hover hN hb1 hcells hslots hvL hvS hd (fun q => k q _ _ _ rfl rfl rfl sg_O_new sg_X.pu)
theorem gw_aastBN (F : sg_F p s m args meth c own cc nL ret G A) {a i n v : Int} {kd : Nat} (ha : sg_O Λ a kd) (g1 : 30000 ≤ kd) (g2 : kd < 40000) (g3 : (kd : Int) = 30000 + n) (h0 : 0 ≤ i) (hn : i < n) (hv : v = -1 ∨ sg_O Λ v 1) (hσ : σ1 = sg_up σ a i v) (hd : decode cc pc = .ok (.aastore, 1)) (k : sg_W p l e R s m args below meth c Q nL G A Λ σ1 cells slots (pc + 1) L S) : sg_W p l e R s m args below meth c Q nL G A Λ σ cells slots pc L (sg_r v :: sg_i i :: sg_r a :: S) := by
  rcases hv with hv | hv
  · intro H locs ls hH hS hl
    have k3 := ha.2.2
    have k1 : 30000 ≤ Λ.2.1 a.toNat := by omega
    have k2 : Λ.2.1 a.toNat < 40000 := by omega
    have e0 : ((a.toNat : Nat) : Int) = a := Int.toNat_of_nonneg ha.1
    have e1 : ((i.toNat : Nat) : Int) = i := Int.toNat_of_nonneg h0
    have he := sg_ws_at (G := G) (σ := σ) ha.2.1
    rw [sg_cell_refB k1 k2, e0] at he
    have ri : sg_R i := ⟨by omega, by omega⟩
    have ho : sg_O Λ a (Λ.2.1 a.toNat) := ⟨ha.1, ha.2.1, rfl⟩
    have hok1 : sg_okS Λ a.toNat v (sg_dcA (Λ.2.1 a.toNat) i.toNat) := by rw [sg_dcA_refB k1 k2]; exact Or.inl hv
    have hok := sg_H_ok (H1 := H) hH ho hok1
    have hE : (.inl (G.2.1 2, Λ.2.1 a.toNat - 30000, .inr (.inr (.inr (.inr (va_up (fun j => sg_ro Λ.2.2 (σ a j)) i.toNat none))))) : va_E) = sg_cell G.2.1 Λ.2.2 (fun b => if b = ((i.toNat : Nat) : Int) then v else σ a b) a.toNat (Λ.2.1 a.toNat) := by
      rw [sg_cell_refB k1 k2]
      congr 8
      funext q
      simp only [va_up]
      by_cases hq : q = i.toNat
      · rw [if_pos hq, if_pos (by omega)]
        unfold sg_ro
        rw [if_pos (by omega)]
      · rw [if_neg hq, if_neg (by omega)]
    show W p l e R s m args below meth c H locs cells slots Q (F0 m pc ls (sg_cv Λ (sg_r v) :: .int (Int32.ofInt i) :: sg_rf Λ.2.2 a :: S.map (sg_cv Λ)))
    rw [sg_rf_ref ha.1, show sg_cv Λ (sg_r v) = .null from sg_rf_null (by omega)]
    refine va_astqN F.1 F.2.1 F.2.2.2.2.2.2.2.1 hH.1 hH.2.1 hS a.toNat 2 he rfl (sg_in h0 (by omega) ri) hd (fun H1 locs1 hP hD hS1 => ?_)
    rw [sg_nat ri] at hP hD
    have hH1 := sg_H_set ho hE hP hD hok
    rw [e1, ← hσ] at hH1
    exact k H1 locs1 ls hH1 hS1 hl
  · exact gw_aastB F ha g1 g2 g3 h0 hn hv hσ hd k
theorem gw_aastSN (F : sg_F p s m args meth c own cc nL ret G A) {a i n v : Int} {kd : Nat} (ha : sg_O Λ a kd) (g1 : 40000 ≤ kd) (g2 : kd < 50000) (g3 : (kd : Int) = 40000 + n) (h0 : 0 ≤ i) (hn : i < n) (hv : v = -1 ∨ sg_O Λ v 7) (hσ : σ1 = sg_up σ a i v) (hd : decode cc pc = .ok (.aastore, 1)) (k : sg_W p l e R s m args below meth c Q nL G A Λ σ1 cells slots (pc + 1) L S) : sg_W p l e R s m args below meth c Q nL G A Λ σ cells slots pc L (sg_r v :: sg_i i :: sg_r a :: S) := by
  rcases hv with hv | hv
  · intro H locs ls hH hS hl
    have k3 := ha.2.2
    have k1 : 40000 ≤ Λ.2.1 a.toNat := by omega
    have k2 : Λ.2.1 a.toNat < 50000 := by omega
    have e0 : ((a.toNat : Nat) : Int) = a := Int.toNat_of_nonneg ha.1
    have e1 : ((i.toNat : Nat) : Int) = i := Int.toNat_of_nonneg h0
    have he := sg_ws_at (G := G) (σ := σ) ha.2.1
    rw [sg_cell_refS k1 k2, e0] at he
    have ri : sg_R i := ⟨by omega, by omega⟩
    have ho : sg_O Λ a (Λ.2.1 a.toNat) := ⟨ha.1, ha.2.1, rfl⟩
    have hok1 : sg_okS Λ a.toNat v (sg_dcA (Λ.2.1 a.toNat) i.toNat) := by rw [sg_dcA_refS k1 k2]; exact Or.inl hv
    have hok := sg_H_ok (H1 := H) hH ho hok1
    have hE : (.inl (G.2.1 3, Λ.2.1 a.toNat - 40000, .inr (.inr (.inr (.inr (va_up (fun j => sg_ro Λ.2.2 (σ a j)) i.toNat none))))) : va_E) = sg_cell G.2.1 Λ.2.2 (fun b => if b = ((i.toNat : Nat) : Int) then v else σ a b) a.toNat (Λ.2.1 a.toNat) := by
      rw [sg_cell_refS k1 k2]
      congr 8
      funext q
      simp only [va_up]
      by_cases hq : q = i.toNat
      · rw [if_pos hq, if_pos (by omega)]
        unfold sg_ro
        rw [if_pos (by omega)]
      · rw [if_neg hq, if_neg (by omega)]
    show W p l e R s m args below meth c H locs cells slots Q (F0 m pc ls (sg_cv Λ (sg_r v) :: .int (Int32.ofInt i) :: sg_rf Λ.2.2 a :: S.map (sg_cv Λ)))
    rw [sg_rf_ref ha.1, show sg_cv Λ (sg_r v) = .null from sg_rf_null (by omega)]
    refine va_astqN F.1 F.2.1 F.2.2.2.2.2.2.2.1 hH.1 hH.2.1 hS a.toNat 3 he rfl (sg_in h0 (by omega) ri) hd (fun H1 locs1 hP hD hS1 => ?_)
    rw [sg_nat ri] at hP hD
    have hH1 := sg_H_set ho hE hP hD hok
    rw [e1, ← hσ] at hH1
    exact k H1 locs1 ls hH1 hS1 hl
  · exact gw_aastS F ha g1 g2 g3 h0 hn hv hσ hd k
theorem gw_widen {k n : Nat} (h1 : cells ≤ k) (h2 : slots ≤ n) (kk : sg_W p l e R s m args below meth c Q nL G A Λ σ k n pc L S) : sg_W p l e R s m args below meth c Q nL G A Λ σ cells slots pc L S := fun H locs ls hH hS hl => W.widen h1 h2 (kk H locs ls hH hS hl)
theorem gy_seal {o : Int} {kd kd' : Nat} {Λ1 : sg_L} (ho : sg_O Λ o kd) (hr : 20 ≤ kd ∧ kd < 100 ∧ kd ≠ 27) (hk' : kd' < 100) (hm : kd % 20 = kd' % 20) (hs : sg_sealed Λ σ o kd kd') (h : Λ1 = sg_se Λ o.toNat kd') (k : sg_W p l e R s m args below meth c Q nL G A Λ1 σ cells slots pc L S) : sg_W p l e R s m args below meth c Q nL G A Λ σ cells slots pc L S := by
  subst h
  exact gw_seal ho hr hk' hm hs.1 hs.2 k
end SGAL
