/-! THE FRAME: one logical heap. A cell is a number below N (in the order in which they were made); its kind says class or array and length; its
contents are whole numbers sg (cell, slot). A reference is a cell's number, -1 is null. The rows below are the kit's rows, said over it. -/
section SGD
abbrev sg_M : Type := Int → Int → Int
abbrev sg_V : Type := Int ⊕ (Int ⊕ (Int ⊕ Nat))
abbrev sg_i (x : Int) : sg_V := .inl x
abbrev sg_l (x : Int) : sg_V := .inr (.inl x)
abbrev sg_r (x : Int) : sg_V := .inr (.inr (.inl x))
abbrev sg_a (x : Nat) : sg_V := .inr (.inr (.inr x))
/-- how many cells, the kind of each, the address of each -/
abbrev sg_L : Type := Nat × (Nat → Nat) × (Nat → Nat)
abbrev sg_G : Type := va_G × (Nat → ClassId) × (Nat → Nat) × (Nat → Nat)
abbrev sg_R (x : Int) : Prop := -2147483648 ≤ x ∧ x ≤ 2147483647
abbrev sg_R64 (x : Int) : Prop := -9223372036854775808 ≤ x ∧ x ≤ 9223372036854775807
abbrev sg_B (x : Int) : Prop := 0 ≤ x ∧ x ≤ 1
def sg_rf (ad : Nat → Nat) (r : Int) : Value := if r < 0 then .null else .ref (ad r.toNat)
def sg_ro (ad : Nat → Nat) (r : Int) : Option Nat := if r < 0 then none else some (ad r.toNat)
def sg_cv (Λ : sg_L) : sg_V → Value
  | .inl x => .int (Int32.ofInt x)
  | .inr (.inl x) => .long (Int64.ofInt x)
  | .inr (.inr (.inl r)) => sg_rf Λ.2.2 r
  | .inr (.inr (.inr a)) => .ref a
def sg_up (σ : sg_M) (o j v : Int) : sg_M := fun a b => if a = o ∧ b = j then v else σ a b
/-- the slots of a kind: 0 a number, 1 a truth, 2 a long, 3 a final reference to the cell so many behind, of that kind; 4 a reference of that kind or null; 5 of a cell that is being made; 7 a final reference to that very cell -/
def sg_dsc : Nat → List (Nat × Nat × Nat)
  | 0 => [(3, 1, 10060), (3, 2, 10060), (3, 3, 4), (0, 0, 0), (0, 0, 0), (0, 0, 0), (0, 0, 0), (0, 0, 0), (0, 0, 0), (0, 0, 0), (1, 0, 0)]
  | 1 => [(3, 1, 10060), (3, 2, 10060), (3, 3, 10060), (3, 4, 10060), (0, 0, 0), (0, 0, 0), (0, 0, 0)]
  | 2 => [(3, 1, 4), (3, 3, 4), (0, 0, 0)]
  | 3 => [(3, 1, 10200), (3, 2, 10200), (0, 0, 0), (0, 0, 0), (0, 0, 0)]
  | 4 => [(3, 1, 9999), (0, 0, 0), (1, 0, 0)]
  | 5 => [(3, 1, 4), (3, 3, 4), (3, 5, 4), (0, 0, 0)]
  | 6 => [(3, 1, 12400), (3, 2, 4), (3, 4, 4)]
  | 7 => [(4, 0, 1), (4, 0, 3), (4, 0, 5), (3, 1, 2), (3, 6, 30004)]
  | 8 => [(3, 1, 10540), (0, 0, 0)]
  | 9 => [(7, 1, 8), (0, 0, 0), (0, 0, 0), (0, 0, 0), (0, 0, 0), (0, 0, 0), (0, 0, 0), (0, 0, 0)]
  | 10 => [(3, 1, 4), (0, 0, 0), (0, 0, 0), (0, 0, 0), (0, 0, 0), (1, 0, 0), (1, 0, 0)]
  | 11 => [(7, 1, 8), (7, 3, 9), (7, 4, 27), (7, 26, 40002), (7, 27, 1), (7, 32, 0), (7, 37, 10), (7, 40, 10), (7, 43, 10), (7, 46, 6), (7, 52, 4), (7, 54, 4), (7, 56, 4), (7, 58, 4), (7, 60, 4), (7, 62, 4), (0, 0, 0), (0, 0, 0), (0, 0, 0)]
  | 12 => [(0, 0, 0), (7, 65, 10540), (0, 0, 0), (0, 0, 0), (0, 0, 0), (0, 0, 0), (0, 0, 0), (0, 0, 0), (0, 0, 0), (0, 0, 0), (0, 0, 0), (0, 0, 0), (2, 0, 0), (0, 0, 0), (7, 66, 12040), (7, 67, 10260), (7, 68, 14080), (7, 69, 10200), (7, 70, 10200), (7, 71, 20002), (1, 0, 0), (0, 0, 0), (7, 72, 10060), (7, 73, 10060), (7, 74, 10060), (7, 75, 10060), (7, 76, 20060), (0, 0, 0), (0, 0, 0), (0, 0, 0), (0, 0, 0), (0, 0, 0), (0, 0, 0), (0, 0, 0), (7, 77, 10005), (7, 78, 10060), (7, 79, 10060), (0, 0, 0), (0, 0, 0), (0, 0, 0), (0, 0, 0), (0, 0, 0), (1, 0, 0), (0, 0, 0), (0, 0, 0), (0, 0, 0), (7, 80, 10040), (7, 81, 10060), (7, 82, 12400), (7, 83, 10060), (0, 0, 0), (7, 84, 10040), (0, 0, 0), (7, 85, 10101), (7, 86, 10021), (0, 0, 0), (0, 0, 0), (7, 87, 10240), (0, 0, 0), (0, 0, 0), (0, 0, 0), (0, 0, 0)]
  | 20 => [(5, 0, 0), (5, 0, 0), (5, 0, 0), (0, 0, 0), (0, 0, 0), (0, 0, 0), (0, 0, 0), (0, 0, 0), (0, 0, 0), (0, 0, 0), (1, 0, 0)]
  | 21 => [(5, 0, 0), (5, 0, 0), (5, 0, 0), (5, 0, 0), (0, 0, 0), (0, 0, 0), (0, 0, 0)]
  | 22 => [(5, 0, 0), (5, 0, 0), (0, 0, 0)]
  | 23 => [(5, 0, 0), (5, 0, 0), (0, 0, 0), (0, 0, 0), (0, 0, 0)]
  | 24 => [(5, 0, 0), (0, 0, 0), (1, 0, 0)]
  | 25 => [(5, 0, 0), (5, 0, 0), (5, 0, 0), (0, 0, 0)]
  | 26 => [(5, 0, 0), (5, 0, 0), (5, 0, 0)]
  | 27 => [(4, 0, 1), (4, 0, 3), (4, 0, 5), (7, 20, 2), (7, 25, 30004)]
  | 28 => [(5, 0, 0), (0, 0, 0)]
  | 29 => [(5, 0, 0), (0, 0, 0), (0, 0, 0), (0, 0, 0), (0, 0, 0), (0, 0, 0), (0, 0, 0), (0, 0, 0)]
  | 30 => [(5, 0, 0), (0, 0, 0), (0, 0, 0), (0, 0, 0), (0, 0, 0), (1, 0, 0), (1, 0, 0)]
  | 31 => [(5, 0, 0), (5, 0, 0), (5, 0, 0), (5, 0, 0), (5, 0, 0), (5, 0, 0), (5, 0, 0), (5, 0, 0), (5, 0, 0), (5, 0, 0), (5, 0, 0), (5, 0, 0), (5, 0, 0), (5, 0, 0), (5, 0, 0), (5, 0, 0), (0, 0, 0), (0, 0, 0), (0, 0, 0)]
  | 32 => [(0, 0, 0), (5, 0, 0), (0, 0, 0), (0, 0, 0), (0, 0, 0), (0, 0, 0), (0, 0, 0), (0, 0, 0), (0, 0, 0), (0, 0, 0), (0, 0, 0), (0, 0, 0), (2, 0, 0), (0, 0, 0), (5, 0, 0), (5, 0, 0), (5, 0, 0), (5, 0, 0), (5, 0, 0), (5, 0, 0), (1, 0, 0), (0, 0, 0), (5, 0, 0), (5, 0, 0), (5, 0, 0), (5, 0, 0), (5, 0, 0), (0, 0, 0), (0, 0, 0), (0, 0, 0), (0, 0, 0), (0, 0, 0), (0, 0, 0), (0, 0, 0), (5, 0, 0), (5, 0, 0), (5, 0, 0), (0, 0, 0), (0, 0, 0), (0, 0, 0), (0, 0, 0), (0, 0, 0), (1, 0, 0), (0, 0, 0), (0, 0, 0), (0, 0, 0), (5, 0, 0), (5, 0, 0), (5, 0, 0), (5, 0, 0), (0, 0, 0), (5, 0, 0), (0, 0, 0), (5, 0, 0), (5, 0, 0), (0, 0, 0), (0, 0, 0), (5, 0, 0), (0, 0, 0), (0, 0, 0), (0, 0, 0), (0, 0, 0)]
  | 47 => [(5, 0, 0), (5, 0, 0), (5, 0, 0), (5, 0, 0), (5, 0, 0)]
  | _ => []
def sg_isK (kd code : Nat) : Prop := if code = 9999 then 10000 ≤ kd ∧ kd < 20000 else kd = code
def sg_dcA (kd j : Nat) : Nat × Nat × Nat := if kd < 100 then (sg_dsc kd).getD j (9, 0, 0) else if kd < 20000 then (0, 0, 0) else if kd < 30000 then (1, 0, 0) else if kd < 40000 then (4, 0, 1) else if kd < 50000 then (4, 0, 7) else (2, 0, 0)
def sg_okS (Λ : sg_L) (k : Nat) (v : Int) (d : Nat × Nat × Nat) : Prop := match d.1 with
  | 0 => sg_R v
  | 1 => sg_B v
  | 2 => sg_R64 v
  | 3 => k + d.2.1 < Λ.1 ∧ sg_isK (Λ.2.1 (k + d.2.1)) d.2.2
  | 4 => v = -1 ∨ (0 ≤ v ∧ v.toNat < Λ.1 ∧ Λ.2.1 v.toNat = d.2.2)
  | 5 => v = -1 ∨ (0 ≤ v ∧ v.toNat < Λ.1)
  | 7 => d.2.1 < Λ.1 ∧ sg_isK (Λ.2.1 d.2.1) d.2.2
  | _ => True
def sg_sv (ad : Nat → Nat) (k : Nat) (v : Int) (d : Nat × Nat × Nat) : Value := match d.1 with
  | 2 => .long (Int64.ofInt v)
  | 3 => .ref (ad (k + d.2.1))
  | 4 => sg_rf ad v
  | 5 => sg_rf ad v
  | 7 => .ref (ad d.2.1)
  | _ => .int (Int32.ofInt v)
def sg_fs (ad : Nat → Nat) (f : Int → Int) (k : Nat) (ds : List (Nat × Nat × Nat)) : List Value := ds.mapIdx (fun j d => sg_sv ad k (f j) d)
def sg_cell (cy : Nat → ClassId) (ad : Nat → Nat) (f : Int → Int) (k kd : Nat) : va_E :=
  if kd < 100 then .inr (kd % 20, sg_fs ad f k (sg_dsc kd))
  else if kd < 20000 then .inl (cy 0, kd - 10000, .inl (fun j => Int32.ofInt (f j)))
  else if kd < 30000 then .inl (cy 1, kd - 20000, .inl (fun j => Int32.ofInt (f j)))
  else if kd < 40000 then .inl (cy 2, kd - 30000, .inr (.inr (.inr (.inr (fun j => sg_ro ad (f j))))))
  else if kd < 50000 then .inl (cy 3, kd - 40000, .inr (.inr (.inr (.inr (fun j => sg_ro ad (f j))))))
  else .inl (cy 4, kd - 50000, .inr (.inl (fun j => Int64.ofInt (f j))))
def sg_ws (G : sg_G) (Λ : sg_L) (σ : sg_M) : va_W := (List.range Λ.1).map (fun k => (Λ.2.2 k, sg_cell G.2.1 Λ.2.2 (σ k) k (Λ.2.1 k)))
def sg_H (G : sg_G) (A : Nat → Prop) (Λ : sg_L) (σ : sg_M) (H : Heap) : Prop := va_P G.1 vwCl (sg_ws G Λ σ) H ∧ va_D A (sg_ws G Λ σ) ∧ ∀ k : Nat, k < Λ.1 → ∀ j : Nat, sg_okS Λ k (σ k j) (sg_dcA (Λ.2.1 k) j)
/-- r is a cell of that kind -/
def sg_T (Λ : sg_L) (r : Int) (code : Nat) : Prop := 0 ≤ r ∧ r.toNat < Λ.1 ∧ sg_isK (Λ.2.1 r.toNat) code
def sg_tys (G : sg_G) : List (ClassId × FieldType) := [(G.2.1 0, .int), (G.2.1 1, .boolean), (G.2.1 2, .object RX1), (G.2.1 3, .object RX7), (G.2.1 4, .long)]
def sg_strs : List (String × Nat × String) := [(RX1, 79, "piece"), (RX1, 106, "teeth"), (RX1, 107, "own"), (RX1, 88, "unit"), (RX1, 96, "bear"), (RX3, 42, "at"), (RX3, 60, "to"), (RX3, 62, "in"), (RX3, 76, "shake"), (RX3, 81, "wait"), (RX5, 91, "tone"), (RX5, 93, "place"), (RX5, 95, "rings"), (RX5, 97, "strain"), (RX5, 99, "places"), (RX5, 101, "tick"), (RX5, 103, "sings"), (RX5, 105, "broken"), (RX5, 107, "twice"), (RX5, 65, "not"), (RX5, 59, "and"), (RX5, 46, "or"), (RX11, 149, "no such piece"), (RX11, 162, "no such bend"), (RX11, 217, "no such tick")]
def sg_slen : List Nat := [5, 5, 3, 4, 4, 2, 2, 2, 5, 4, 4, 5, 5, 6, 6, 4, 5, 6, 5, 3, 3, 2, 13, 12, 12]
def sg_sbyt : List (List Int32) := [[112, 105, 101, 99, 101], [116, 101, 101, 116, 104], [111, 119, 110], [117, 110, 105, 116], [98, 101, 97, 114], [97, 116], [116, 111], [105, 110], [115, 104, 97, 107, 101], [119, 97, 105, 116], [116, 111, 110, 101], [112, 108, 97, 99, 101], [114, 105, 110, 103, 115], [115, 116, 114, 97, 105, 110], [112, 108, 97, 99, 101, 115], [116, 105, 99, 107], [115, 105, 110, 103, 115], [98, 114, 111, 107, 101, 110], [116, 119, 105, 99, 101], [110, 111, 116], [97, 110, 100], [111, 114], [110, 111, 32, 115, 117, 99, 104, 32, 112, 105, 101, 99, 101], [110, 111, 32, 115, 117, 99, 104, 32, 98, 101, 110, 100], [110, 111, 32, 115, 117, 99, 104, 32, 116, 105, 99, 107]]
def sg_Y (G : sg_G) (A : Nat → Prop) (U : State) (H : Heap) : Prop := vk_S 25 sg_slen sg_sbyt G.2.2.1 G.2.2.2 A U H ∧ va_Z "java/lang/String" "COMPACT_STRINGS" "Z" (.int 1) A U H ∧ va_Zq "jdk/internal/util/Preconditions" "SIOOBE_FORMATTER" "Ljava/util/function/BiFunction;" A U H ∧ vx_Zq Bundle.tN "UNASSIGNED_STACK" Bundle.steD A U H ∧ vx_Zq Bundle.tN "SUPPRESSED_SENTINEL" Bundle.listD A U H ∧ ∀ (i : Nat) (q : String × Nat × String), sg_strs[i]? = some q → vk_R q.1 q.2.1 q.2.2 (G.2.2.1 i) U
def sg_N (U : State) : Prop := ∀ w ∈ sg_WN, va_Nw w U
/-- which cells a method may change: those of the logical heap, and new ones -/
def sg_A (Λ : sg_L) (sz : Nat) : Nat → Prop := fun q => (∃ k : Nat, k < Λ.1 ∧ Λ.2.2 k = q) ∨ sz ≤ q
def sg_E (Λ Λ' : sg_L) : Prop := Λ.1 ≤ Λ'.1 ∧ ∀ k : Nat, k < Λ.1 → Λ'.2.2 k = Λ.2.2 k
end SGD
section SGL
theorem sg_N.warm {s U : State} (hW : s.WarmedH U.vm) (h : sg_N s) : sg_N U := by
  intro w hw
  have h1 := h w hw
  have h2 := (List.mem_filter.mp hw).2
  cases w <;> first | exact va_Nw.warmF hW h1 | exact va_Nw.warmM hW h1 | exact va_Nw.warmC hW h1 | exact va_Nw.warmD hW h1 | cases h2 | (rename_i ty; cases ty <;> first | exact va_AO.moved hW.alike h1 | cases h2)
theorem sg_N.same {s U : State} (hv : s.vm = U.vm) (h : sg_N s) : sg_N U := by
  intro w hw
  have h1 := h w hw
  have h2 := (List.mem_filter.mp hw).2
  cases w <;> first | exact va_Nw.same rfl hv h1 | cases h2 | (rename_i ty; cases ty <;> first | exact va_AO.moved (by rw [hv]; exact Vm.Alike.refl _) h1 | cases h2)
theorem sg_Y.kept {G : sg_G} {A : Nat → Prop} {U : State} {H H1 : Heap} (h : sg_Y G A U H) (hq : ∀ a : Nat, a < H.size → ¬ A a → H1[a]? = H[a]?) : sg_Y G A U H1 := ⟨h.1.kept hq, h.2.1.kept hq, h.2.2.1.kept hq, h.2.2.2.1.kept hq, h.2.2.2.2.1.kept hq, h.2.2.2.2.2⟩
theorem sg_Y.narrow {G : sg_G} {A B : Nat → Prop} {U : State} {H : Heap} (h : sg_Y G A U H) (hAB : ∀ q, B q → A q) : sg_Y G B U H := ⟨h.1.narrow hAB, h.2.1.narrow hAB, h.2.2.1.narrow hAB, h.2.2.2.1.narrow hAB, h.2.2.2.2.1.narrow hAB, h.2.2.2.2.2⟩
theorem sg_Y.warm {G : sg_G} {A : Nat → Prop} {s U : State} {H : Heap} (hW : s.WarmedH U.vm) (h : sg_Y G A s H) : sg_Y G A U H := ⟨h.1.moved hW.alike, h.2.1.moved hW.alike, h.2.2.1.moved hW.alike, h.2.2.2.1.moved hW.alike, h.2.2.2.2.1.moved hW.alike, fun i q hi => (h.2.2.2.2.2 i q hi).warm hW⟩
theorem sg_Y.same {G : sg_G} {A : Nat → Prop} {s U : State} {H : Heap} (hv : s.vm = U.vm) (h : sg_Y G A s H) : sg_Y G A U H := by
  have ha : s.vm.Alike U.vm := by rw [hv]; exact Vm.Alike.refl _
  exact ⟨h.1.moved ha, h.2.1.moved ha, h.2.2.1.moved ha, h.2.2.2.1.moved ha, h.2.2.2.2.1.moved ha, fun i q hi => (h.2.2.2.2.2 i q hi).same hv.symm⟩
theorem sg_ofInt_inj {x y : Int} (hx : sg_R x) (hy : sg_R y) : Int32.ofInt x = Int32.ofInt y ↔ x = y := by
  constructor
  · intro h
    have h1 := congrArg Int32.toInt h
    rwa [Int32.toInt_ofInt_of_le (by omega) (by omega), Int32.toInt_ofInt_of_le (by omega) (by omega)] at h1
  · rintro rfl; rfl
theorem sg_toInt {x : Int} (hx : sg_R x) : (Int32.ofInt x).toInt = x := Int32.toInt_ofInt_of_le (by omega) (by omega)
theorem sg_toInt64 {x : Int} (hx : sg_R64 x) : (Int64.ofInt x).toInt = x := Int64.toInt_ofInt_of_le (by omega) (by omega)
theorem sg_lt {x y : Int} (hx : sg_R x) (hy : sg_R y) : Int32.ofInt x < Int32.ofInt y ↔ x < y := by rw [Int32.lt_iff_toInt_lt, sg_toInt hx, sg_toInt hy]
theorem sg_le {x y : Int} (hx : sg_R x) (hy : sg_R y) : Int32.ofInt x ≤ Int32.ofInt y ↔ x ≤ y := by rw [Int32.le_iff_toInt_le, sg_toInt hx, sg_toInt hy]
theorem sg_nat {x : Int} (hx : sg_R x) : (Int32.ofInt x).toNatClampNeg = x.toNat := Int32.toNatClampNeg_ofInt_of_le (by omega) (by omega)
theorem sg_in {x : Int} {n : Nat} (h0 : 0 ≤ x) (hn : x < n) (hx : sg_R x) : vp_in (Int32.ofInt x) n := by
  intro h
  rw [sg_nat hx] at h
  rcases h with h | h
  · have : (Int32.ofInt x) < Int32.ofInt 0 := h
    rw [sg_lt hx ⟨by omega, by omega⟩] at this
    omega
  · omega
theorem sg_ws_at {G : sg_G} {Λ : sg_L} {σ : sg_M} {k : Nat} (h : k < Λ.1) : (sg_ws G Λ σ)[k]? = some (Λ.2.2 k, sg_cell G.2.1 Λ.2.2 (σ k) k (Λ.2.1 k)) := by simp [sg_ws, h]
theorem sg_ws_get {G : sg_G} {Λ : sg_L} {σ : sg_M} {i : Nat} {q : Nat × va_E} (h : (sg_ws G Λ σ)[i]? = some q) : i < Λ.1 ∧ q = (Λ.2.2 i, sg_cell G.2.1 Λ.2.2 (σ i) i (Λ.2.1 i)) := by
  have hl : i < Λ.1 := by
    have := (List.getElem?_eq_some_iff.mp h).1
    simpa [sg_ws] using this
  rw [sg_ws_at hl] at h
  exact ⟨hl, (Option.some.inj h).symm⟩
theorem sg_up_ne {σ : sg_M} {o j v a : Int} (h : a ≠ o) : sg_up σ o j v a = σ a := by funext b; simp [sg_up, h]
theorem sg_up_eq {σ : sg_M} {o j v : Int} : sg_up σ o j v o = fun b => if b = j then v else σ o b := by funext b; simp [sg_up]
theorem sg_ws_set {G : sg_G} {Λ : sg_L} {σ : sg_M} {k : Nat} {j v : Int} (h : k < Λ.1) {E : va_E} (hE : E = sg_cell G.2.1 Λ.2.2 (fun b => if b = j then v else σ k b) k (Λ.2.1 k)) : (sg_ws G Λ σ).set k (Λ.2.2 k, E) = sg_ws G Λ (sg_up σ k j v) := by
  subst hE
  apply List.ext_getElem?
  intro i
  rw [List.getElem?_set]
  by_cases hi : k = i
  · subst hi
    rw [if_pos rfl, sg_ws_at h, sg_up_eq]
    simp [sg_ws, h]
  · rw [if_neg hi]
    by_cases hl : i < Λ.1
    · rw [sg_ws_at hl, sg_ws_at hl, sg_up_ne (by omega)]
    · have h1 : (sg_ws G Λ σ)[i]? = none := by simp [sg_ws, hl]
      have h2 : (sg_ws G Λ (sg_up σ k j v))[i]? = none := by simp [sg_ws, hl]
      rw [h1, h2]
theorem sg_fs_at {ad : Nat → Nat} {f : Int → Int} {k j : Nat} {ds : List (Nat × Nat × Nat)} {d : Nat × Nat × Nat} (h : ds[j]? = some d) : (sg_fs ad f k ds)[j]? = some (sg_sv ad k (f j) d) := by
  simp [sg_fs, List.getElem?_mapIdx, h]
theorem sg_fs_len {ad : Nat → Nat} {f : Int → Int} {k : Nat} {ds : List (Nat × Nat × Nat)} : (sg_fs ad f k ds).length = ds.length := by simp [sg_fs]
theorem sg_fs_set {ad : Nat → Nat} {f : Int → Int} {k j : Nat} {v : Int} {ds : List (Nat × Nat × Nat)} {d : Nat × Nat × Nat} (h : ds[j]? = some d) : (sg_fs ad f k ds).set j (sg_sv ad k v d) = sg_fs ad (fun b => if b = (j : Int) then v else f b) k ds := by
  apply List.ext_getElem?
  intro i
  rw [List.getElem?_set]
  by_cases hi : j = i
  · subst hi
    have hl : j < ds.length := (List.getElem?_eq_some_iff.mp h).1
    rw [if_pos rfl, sg_fs_len, if_pos hl, sg_fs_at h]
    simp
  · rw [if_neg hi]
    simp only [sg_fs, List.getElem?_mapIdx]
    cases hd : ds[i]? with
    | none => rfl
    | some d' =>
      simp only [Option.map_some]
      rw [if_neg (by omega)]
end SGL
