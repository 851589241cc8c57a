section SGGH
variable {s : State} {args : Array Value}
theorem tg_use {α : Type} {l : List α} {f : α → Cond} {ix : List Nat} (e : l.map f = ix.filterMap (fun i => tg_fl[i]?)) (hgv : (Jvm.Cond.and given_1 narrow_1).before args s = true) {x : α} (hx : x ∈ l) : (f x).before args s = true := by
  have h1 : f x ∈ l.map f := List.mem_map_of_mem hx
  rw [e] at h1
  obtain ⟨i, -, hi⟩ := List.mem_filterMap.mp h1
  exact flat_of_before _ hgv _ (List.mem_of_getElem? hi)
theorem tg_b1 : (List.range 25).all (fun i => decide (sg_slen.getD i 0 < 2 ^ 31)) = true := by decide +kernel
theorem tg_b2 : (List.range 25).all (fun i => (List.range 13).all (fun j => !(decide (j < sg_slen.getD i 0)) || tg_pr.contains (i, j))) = true := by decide +kernel
theorem tg_b3 : (List.range 25).all (fun i => decide (sg_slen.getD i 0 ≤ 13)) = true := by decide +kernel
theorem tg_b4 : (List.range 25).all (fun i => (List.range 25).all (fun j => decide (i = j) || tg_df.contains (i, j) || tg_df.contains (j, i))) = true := by decide +kernel
theorem tg_ex1 (hgv : (Jvm.Cond.and given_1 narrow_1).before args s = true) (i : Nat) (hi : i < 25) : (Cond.exactly (tg_tm i) "java/lang/String").before args s = true := by
  have h := tg_use tg_ex hgv (x := i) (List.mem_range.mpr hi)
  exact h
theorem tg_co1 (hgv : (Jvm.Cond.and given_1 narrow_1).before args s = true) (i : Nat) (hi : i < 25) : (Cond.eq (.field (tg_tm i) "java/lang/String" "coder" "B") (.int 0)).before args s = true := by
  have h := tg_use tg_co hgv (x := i) (List.mem_range.mpr hi)
  exact h
theorem tg_ar1 (hgv : (Jvm.Cond.and given_1 narrow_1).before args s = true) (i : Nat) (hi : i < 25) : (Cond.arrayOf (.field (tg_tm i) "java/lang/String" "value" "[B") .byte).before args s = true := by
  have h := tg_use tg_ar hgv (x := i) (List.mem_range.mpr hi)
  exact h
theorem tg_le1 (hgv : (Jvm.Cond.and given_1 narrow_1).before args s = true) (i : Nat) (hi : i < 25) : (Cond.eq (.length (.field (tg_tm i) "java/lang/String" "value" "[B")) (.int (Int32.ofNat (sg_slen.getD i 0)))).before args s = true := by
  have h := tg_use tg_le hgv (x := i) (List.mem_range.mpr hi)
  exact h
theorem tg_el1 (hgv : (Jvm.Cond.and given_1 narrow_1).before args s = true) (i : Nat) (hi : i < 25) (j : Nat) (hj : j < sg_slen.getD i 0) : (Cond.eq (.elem (.field (tg_tm i) "java/lang/String" "value" "[B") (.int (Int32.ofNat j))) (.int ((sg_sbyt.getD i []).getD j 0))).before args s = true := by
  have h1 := List.all_eq_true.mp tg_b2 i (List.mem_range.mpr hi)
  have h13 := of_decide_eq_true (List.all_eq_true.mp tg_b3 i (List.mem_range.mpr hi))
  have h2 := List.all_eq_true.mp h1 j (List.mem_range.mpr (Nat.lt_of_lt_of_le hj h13))
  rw [decide_eq_true hj, Bool.not_true, Bool.false_or] at h2
  have h3 : (i, j) ∈ tg_pr := List.contains_iff_mem.mp h2
  have h := tg_use tg_el hgv (x := (i, j)) h3
  exact h
theorem tg_ne1 (hgv : (Jvm.Cond.and given_1 narrow_1).before args s = true) (i j : Nat) (hi : i < 25) (hj : j < 25) (hij : i ≠ j) : (Cond.not (Cond.eq (tg_tm i) (tg_tm j))).before args s = true ∨ (Cond.not (Cond.eq (tg_tm j) (tg_tm i))).before args s = true := by
  have h1 := List.all_eq_true.mp (List.all_eq_true.mp tg_b4 i (List.mem_range.mpr hi)) j (List.mem_range.mpr hj)
  rw [decide_eq_false hij, Bool.false_or, Bool.or_eq_true] at h1
  rcases h1 with h1 | h1
  · have h3 : (i, j) ∈ tg_df := List.contains_iff_mem.mp h1
    exact Or.inl (tg_use tg_ne hgv (x := (i, j)) h3)
  · have h3 : (j, i) ∈ tg_df := List.contains_iff_mem.mp h1
    exact Or.inr (tg_use tg_ne hgv (x := (j, i)) h3)
theorem tg_S (hgv : (Jvm.Cond.and given_1 narrow_1).before args s = true) : ∃ adK adV : Nat → Nat, vk_S 25 sg_slen sg_sbyt adK adV (fun q : Nat => s.heap.size ≤ q) s s.heap ∧ ∀ i : Nat, i < 25 → (tg_tm i).eval args s none [] s = some (.ref (adK i)) :=
  vk_Sof (args := args) (tm := tg_tm) (len := sg_slen) (byt := sg_sbyt) (fun i hi => of_decide_eq_true (List.all_eq_true.mp tg_b1 i (List.mem_range.mpr hi))) (tg_ex1 hgv) (tg_co1 hgv) (tg_ar1 hgv) (tg_le1 hgv) (tg_el1 hgv) (tg_ne1 hgv) (fun a h1 h2 => absurd h1 (Nat.not_lt.mpr h2))
theorem tg_N (hts : ∀ w ∈ tables_1, w.before args s = true) : sg_N s := by
  intro w hw
  have h := hts w (List.mem_filter.mp hw).1
  have h2 := (List.mem_filter.mp hw).2
  cases w <;> first | exact va_Nw.of rfl h | cases h2 | (rename_i ty; cases ty <;> first | exact va_Nw.of rfl h | exact h | cases h2)
theorem tg_K (hts : ∀ w ∈ sg_W0, w.before args s = true) (htn : ∀ w ∈ tables_1, w.before args s = true) : ∃ (D : va_G) (cy : Nat → ClassId), ∀ q : (Nat → Nat) × (Nat → Nat), va_K D vwCl (sg_tys (D, cy, q.1, q.2)) s := by
  obtain ⟨c0, i0, h0⟩ := u_known (C := RX0) (T := TX0) (N := 11) hts sg_lay_RX0 (hts _ kw_245)
  obtain ⟨c1, i1, h1⟩ := u_known (C := RX1) (T := TX1) (N := 7) hts sg_lay_RX1 (hts _ kw_153)
  obtain ⟨c2, i2, h2⟩ := u_known (C := RX2) (T := TX2) (N := 3) hts sg_lay_RX2 (hts _ kw_217)
  obtain ⟨c3, i3, h3⟩ := u_known (C := RX3) (T := TX3) (N := 5) hts sg_lay_RX3 (hts _ kw_173)
  obtain ⟨c4, i4, h4⟩ := u_known (C := RX4) (T := TX4) (N := 3) hts sg_lay_RX4 (hts _ kw_191)
  obtain ⟨c5, i5, h5⟩ := u_known (C := RX5) (T := TX5) (N := 4) hts sg_lay_RX5 (hts _ kw_185)
  obtain ⟨c6, i6, h6⟩ := u_known (C := RX6) (T := TX6) (N := 3) hts sg_lay_RX6 (hts _ kw_305)
  obtain ⟨c7, i7, h7⟩ := u_known (C := RX7) (T := TX7) (N := 5) hts sg_lay_RX7 (hts _ kw_151)
  obtain ⟨c8, i8, h8⟩ := u_known (C := RX8) (T := TX8) (N := 2) hts sg_lay_RX8 (hts _ kw_121)
  obtain ⟨c9, i9, h9⟩ := u_known (C := RX9) (T := TX9) (N := 8) hts sg_lay_RX9 (hts _ kw_133)
  obtain ⟨c10, i10, h10⟩ := u_known (C := RX10) (T := TX10) (N := 7) hts sg_lay_RX10 (hts _ kw_276)
  obtain ⟨c11, i11, h11⟩ := u_known (C := RX11) (T := TX11) (N := 19) hts sg_lay_RX11 (hts _ kw_113)
  obtain ⟨c12, i12, h12⟩ := u_known (C := RX12) (T := TX12) (N := 62) hts sg_lay_RX12 (hts _ kw_951)
  obtain ⟨a0, ka0, pa0, fa0, ga0, ea0⟩ := Cond.arrayClass_spec (args := args) (first := s) (o := none) (s := s) (idx := []) (type := .int) (hts _ kw_131)
  obtain ⟨a1, ka1, pa1, fa1, ga1, ea1⟩ := Cond.arrayClass_spec (args := args) (first := s) (o := none) (s := s) (idx := []) (type := .boolean) (hts _ kw_1018)
  obtain ⟨a4, ka4, pa4, fa4, ga4, ea4⟩ := Cond.arrayClass_spec (args := args) (first := s) (o := none) (s := s) (idx := []) (type := .long) (hts _ kw_1351)
  obtain ⟨pa2, a2, ka2, fa2, -, ga2, ea2, na2⟩ := Cond.arrayOver_spec (args := args) (first := s) (o := none) (s := s) (idx := []) (n := RX1) (htn (Cond.arrayOver (.object RX1)) (sg_mt1 (List.mem_of_getElem? (i := 214) rfl)))
  obtain ⟨pa3, a3, ka3, fa3, -, ga3, ea3, na3⟩ := Cond.arrayOver_spec (args := args) (first := s) (o := none) (s := s) (idx := []) (n := RX7) (htn (Cond.arrayOver (.object RX7)) (sg_mt1 (List.mem_of_getElem? (i := 236) rfl)))
  refine ⟨(fun k => match k with | 0 => c0 | 1 => c1 | 2 => c2 | 3 => c3 | 4 => c4 | 5 => c5 | 6 => c6 | 7 => c7 | 8 => c8 | 9 => c9 | 10 => c10 | 11 => c11 | _ => c12, fun k => match k with | 0 => i0 | 1 => i1 | 2 => i2 | 3 => i3 | 4 => i4 | 5 => i5 | 6 => i6 | 7 => i7 | 8 => i8 | 9 => i9 | 10 => i10 | 11 => i11 | _ => i12), (fun k => match k with | 0 => a0 | 1 => a1 | 2 => a2 | 3 => a3 | _ => a4), fun q => ⟨fun c q hq => ?_, fun k q hq => ?_⟩⟩
  · match c, hq with
    | 0, hq => cases Option.some.inj hq; exact h0
    | 1, hq => cases Option.some.inj hq; exact h1
    | 2, hq => cases Option.some.inj hq; exact h2
    | 3, hq => cases Option.some.inj hq; exact h3
    | 4, hq => cases Option.some.inj hq; exact h4
    | 5, hq => cases Option.some.inj hq; exact h5
    | 6, hq => cases Option.some.inj hq; exact h6
    | 7, hq => cases Option.some.inj hq; exact h7
    | 8, hq => cases Option.some.inj hq; exact h8
    | 9, hq => cases Option.some.inj hq; exact h9
    | 10, hq => cases Option.some.inj hq; exact h10
    | 11, hq => cases Option.some.inj hq; exact h11
    | 12, hq => cases Option.some.inj hq; exact h12
    | c + 13, hq => cases hq
  · match k, hq with
    | 0, hq => cases Option.some.inj hq; exact ⟨fun n z => ⟨fun k h => (by cases h), ka0, ga0, pa0, ea0⟩, fa0⟩
    | 1, hq => cases Option.some.inj hq; exact ⟨fun n z => ⟨fun k h => (by cases h), ka1, ga1, pa1, ea1⟩, fa1⟩
    | 2, hq => cases Option.some.inj hq; exact ⟨fun n z => ⟨fun k h => (by cases h), ka2, ga2, pa2, ea2⟩, ka2, pa2, ga2, ea2, fa2, na2⟩
    | 3, hq => cases Option.some.inj hq; exact ⟨fun n z => ⟨fun k h => (by cases h), ka3, ga3, pa3, ea3⟩, ka3, pa3, ga3, ea3, fa3, na3⟩
    | 4, hq => cases Option.some.inj hq; exact ⟨fun n z => ⟨fun k h => (by cases h), ka4, ga4, pa4, ea4⟩, fa4⟩
    | k + 5, hq => cases hq
theorem tg_Y (hts : ∀ w ∈ sg_W0, w.before args s = true) (htn : ∀ w ∈ tables_1, w.before args s = true) (hgv : (Jvm.Cond.and given_1 narrow_1).before args s = true) : ∃ adK adV : Nat → Nat, ∀ q : va_G × (Nat → ClassId), sg_Y (q.1, q.2, adK, adV) (fun q : Nat => s.heap.size ≤ q) s s.heap := by
  obtain ⟨adK, adV, h1, h2⟩ := tg_S hgv
  have hA : ∀ a : Nat, a < s.heap.size → ¬ (fun q : Nat => s.heap.size ≤ q) a := fun a h1 h2 => absurd h1 (Nat.not_lt.mpr h2)
  refine ⟨adK, adV, fun q => ⟨h1, va_Zof (args := args) (htn _ (sg_mt3 (List.mem_of_getElem? (i := 12) rfl))) (hts _ kw_104) (va_eqt (tg_use tg_st hgv (x := 0) (List.mem_singleton.mpr rfl))) hA, va_Zqof (args := args) (htn _ (sg_mt3 (List.mem_of_getElem? (i := 28) rfl))) (hts _ kw_106) (tg_use tg_si hgv (x := 0) (List.mem_singleton.mpr rfl)) hA, vx_Zqof (args := args) (htn _ (sg_mt5 (List.mem_of_getElem? (i := 99) rfl))) (hts _ kw_108) (tg_use tg_us hgv (x := 0) (List.mem_singleton.mpr rfl)) hA, vx_Zqof (args := args) (htn _ (sg_mt5 (List.mem_of_getElem? (i := 101) rfl))) (hts _ kw_108) (tg_use tg_ss hgv (x := 0) (List.mem_singleton.mpr rfl)) hA, fun i q hi => ?_⟩⟩
  match i, hi with
  | 0, hi => cases Option.some.inj hi; exact vk_R.of (A := args) (htn _ (sg_mt2 (List.mem_of_getElem? (i := 234) rfl))) (h2 0 (by decide))
  | 1, hi => cases Option.some.inj hi; exact vk_R.of (A := args) (htn _ (sg_mt3 (List.mem_of_getElem? (i := 66) rfl))) (h2 1 (by decide))
  | 2, hi => cases Option.some.inj hi; exact vk_R.of (A := args) (htn _ (sg_mt3 (List.mem_of_getElem? (i := 67) rfl))) (h2 2 (by decide))
  | 3, hi => cases Option.some.inj hi; exact vk_R.of (A := args) (htn _ (sg_mt3 (List.mem_of_getElem? (i := 80) rfl))) (h2 3 (by decide))
  | 4, hi => cases Option.some.inj hi; exact vk_R.of (A := args) (htn _ (sg_mt3 (List.mem_of_getElem? (i := 87) rfl))) (h2 4 (by decide))
  | 5, hi => cases Option.some.inj hi; exact vk_R.of (A := args) (htn _ (sg_mt3 (List.mem_of_getElem? (i := 234) rfl))) (h2 5 (by decide))
  | 6, hi => cases Option.some.inj hi; exact vk_R.of (A := args) (htn _ (sg_mt3 (List.mem_of_getElem? (i := 239) rfl))) (h2 6 (by decide))
  | 7, hi => cases Option.some.inj hi; exact vk_R.of (A := args) (htn _ (sg_mt4 (List.mem_of_getElem? (i := 0) rfl))) (h2 7 (by decide))
  | 8, hi => cases Option.some.inj hi; exact vk_R.of (A := args) (htn _ (sg_mt4 (List.mem_of_getElem? (i := 18) rfl))) (h2 8 (by decide))
  | 9, hi => cases Option.some.inj hi; exact vk_R.of (A := args) (htn _ (sg_mt4 (List.mem_of_getElem? (i := 24) rfl))) (h2 9 (by decide))
  | 10, hi => cases Option.some.inj hi; exact vk_R.of (A := args) (htn _ (sg_mt4 (List.mem_of_getElem? (i := 218) rfl))) (h2 10 (by decide))
  | 11, hi => cases Option.some.inj hi; exact vk_R.of (A := args) (htn _ (sg_mt4 (List.mem_of_getElem? (i := 220) rfl))) (h2 11 (by decide))
  | 12, hi => cases Option.some.inj hi; exact vk_R.of (A := args) (htn _ (sg_mt4 (List.mem_of_getElem? (i := 221) rfl))) (h2 12 (by decide))
  | 13, hi => cases Option.some.inj hi; exact vk_R.of (A := args) (htn _ (sg_mt4 (List.mem_of_getElem? (i := 222) rfl))) (h2 13 (by decide))
  | 14, hi => cases Option.some.inj hi; exact vk_R.of (A := args) (htn _ (sg_mt4 (List.mem_of_getElem? (i := 223) rfl))) (h2 14 (by decide))
  | 15, hi => cases Option.some.inj hi; exact vk_R.of (A := args) (htn _ (sg_mt4 (List.mem_of_getElem? (i := 224) rfl))) (h2 15 (by decide))
  | 16, hi => cases Option.some.inj hi; exact vk_R.of (A := args) (htn _ (sg_mt4 (List.mem_of_getElem? (i := 225) rfl))) (h2 16 (by decide))
  | 17, hi => cases Option.some.inj hi; exact vk_R.of (A := args) (htn _ (sg_mt4 (List.mem_of_getElem? (i := 226) rfl))) (h2 17 (by decide))
  | 18, hi => cases Option.some.inj hi; exact vk_R.of (A := args) (htn _ (sg_mt4 (List.mem_of_getElem? (i := 227) rfl))) (h2 18 (by decide))
  | 19, hi => cases Option.some.inj hi; exact vk_R.of (A := args) (htn _ (sg_mt4 (List.mem_of_getElem? (i := 228) rfl))) (h2 19 (by decide))
  | 20, hi => cases Option.some.inj hi; exact vk_R.of (A := args) (htn _ (sg_mt5 (List.mem_of_getElem? (i := 4) rfl))) (h2 20 (by decide))
  | 21, hi => cases Option.some.inj hi; exact vk_R.of (A := args) (htn _ (sg_mt5 (List.mem_of_getElem? (i := 5) rfl))) (h2 21 (by decide))
  | 22, hi => cases Option.some.inj hi; exact vk_R.of (A := args) (htn _ (sg_mt5 (List.mem_of_getElem? (i := 111) rfl))) (h2 22 (by decide))
  | 23, hi => cases Option.some.inj hi; exact vk_R.of (A := args) (htn _ (sg_mt5 (List.mem_of_getElem? (i := 148) rfl))) (h2 23 (by decide))
  | 24, hi => cases Option.some.inj hi; exact vk_R.of (A := args) (htn _ (sg_mt5 (List.mem_of_getElem? (i := 163) rfl))) (h2 24 (by decide))
  | i + 25, hi => cases hi
end SGGH
