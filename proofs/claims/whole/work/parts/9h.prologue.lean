/-! THE LAW from its entry on. -/
section SGLP
abbrev lz_L : sg_L := (0, fun _ => 0, fun _ => 0)
abbrev lz_S : sg_M := fun _ _ => 0
def lz_Q1 : sg_L → sg_M → Prop := fun La' s' => La'.1 = 64 ∧ (∀ j, j < 64 → La'.2.1 j = sg_layL.getD j 0) ∧ sp_cB s' 5 (bFill b00) ∧ tk_V s' tkFL
def lz_Q2 (La : sg_L) (s : sg_M) : sg_L → sg_M → Prop := fun La' s' => La'.1 = 88 ∧ (∀ j, j < 64 → La'.2.1 j = La.2.1 j) ∧ (∀ j, 64 ≤ j → j < 88 → La'.2.1 j = sg_layL.getD j 0) ∧ (∀ c i : Int, 65 ≤ c → c < 88 → c ≠ 77 → s' c i = 0) ∧ (∀ c i : Int, c < 64 → s' c i = s c i) ∧ (∀ f, s' 64 f = mv mvL f) ∧ (∀ w, 0 ≤ w → w < 5 → s' 77 w = -1)
theorem lz_start {La La5 : sg_L} {s s5 : sg_M} {q : Nat} (n : La.1 = 88) (k : ∀ j, j < 88 → La.2.1 j = sg_layL.getD j 0) (c : sp_cB s 5 (bFill b00)) (V : tk_V s tkFL) (z : ∀ c i : Int, 65 ≤ c → c < 88 → c ≠ 77 → s c i = 0) (g : ∀ f, s 64 f = mv mvL f) (w : ∀ w, 0 ≤ w → w < 5 → s 77 w = -1) (e1 : La5 = sg_pu La 50001 q) (e2 : s5 = sg_nw s La.1 50001) : sl_I La5 s5 := by
  have n5 : La5.1 = 89 := by rw [e1, sp_pu1, n]
  have lo : ∀ c i : Int, c < 88 → s5 c i = s c i := fun c i h => by rw [e2]; exact sp_nwN (by rw [n]; omega)
  have hst : sg_St La5 := by
    intro j kd hj
    have hl : j < 89 := by
      have := (List.getElem?_eq_some_iff.mp hj).1
      exact this
    have e : sg_layL.getD j 0 = kd := by rw [List.getD_eq_getElem?_getD, hj]; rfl
    refine ⟨by rw [n5]; exact hl, ?_⟩
    rcases Nat.lt_or_ge j 88 with h | h
    · rw [e1, sg_pu_kd (by rw [n]; exact h), k j h, e]
    · have h88 : j = 88 := by omega
      subst h88
      have e' : (50001 : Nat) = kd := e
      rw [e1, ← n, ← e']; exact sg_pu_new
  refine ⟨hst, by rw [n5]; exact Nat.le_refl _, ⟨by decide, by rw [n5]; decide, by rw [e1]; show (sg_pu La 50001 q).2.1 88 = _; rw [← n]; exact sg_pu_new⟩, z00, t_wZ, t_RC hst (V.fr lo (by decide +kernel)) ?_, t_RM (fun c i h1 h2 h3 => by rw [lo c i h2]; exact z c i h1 h2 h3) (fun f => by rw [lo 64 f (by omega)]; exact g f) (fun w' h1 h2 => by rw [lo 77 w' (by omega)]; exact w w' h1 h2)⟩
  obtain ⟨b1, b2, b3, b4⟩ := c
  refine ⟨by rw [lo 5 4 (by omega)]; exact b1, by rw [lo 5 5 (by omega)]; exact b2, by rw [lo 5 6 (by omega)]; exact b3, fun i h0 h1 => ?_⟩
  rw [lo _ _ (by omega), lo _ _ (by omega), lo _ _ (by omega), lo _ _ (by omega)]
  exact b4 i h0 h1
theorem lz_walk {p : Program} {l : Launch} {e : Env} {s : State} {m : MethodId} {args : Array Value} {below : List Frame} {meth : Method} {c : Code} {Q : State → Prop} {G : sg_G} {A : Nat → Prop} {b n : Nat} {xs : Nat → Int32} (hl0 : l.stackTraces = false) (F : sg_F p s m args meth c RL cL_law 7 (some .boolean) G A) (hX : va_X b n xs s s.heap) (hbl : b < s.heap.size) (hbA : ¬ A b) (hn : n ≤ 3072)
    (ke : ∀ (La : sg_L) (s0 : sg_M) (i : Int) (cells slots : Nat), cells ≤ 601024 → slots ≤ 7293034 → sg_W p l e room_1 s m args below meth c Q 7 G A La s0 cells slots 1463 (lwL b i) []) : sg_W p l e room_1 s m args below meth c Q 7 G A lz_L lz_S 0 0 0 [(0, sg_a b)] [] := by
  have nS : ∀ {P : sg_V → Prop}, ∀ q ∈ ([] : List sg_V), P q := fun _ h => absurd h List.not_mem_nil
  refine gy_new F (kd := 31) (T := TX11) (by decide) rfl sg_lay_RX11 tyX11_ok kw_112 kw_113 kw_90 ns_X11 nf_X11 nr_X11 (by decide) (by decide) (List.forall_mem_cons.mpr ⟨trivial, fun _ h => absurd h List.not_mem_nil⟩) (fun _ h => absurd h List.not_mem_nil) dLW_0 (fun q1 La1 s1 o1 e1 e2 e3 t1 X1 => ?_)
  have o0 : o1 = 0 := e3
  subst o0
  have n1 : La1.1 = 1 := by rw [e1]; rfl
  have f1 : fX11_init La1 s1 0 lz_Q1 := t11_init n1 (by rw [e1]; exact sg_pu_new) (fun La' s' a b c d => ⟨a, b, c, d⟩)
  refine gw_dup F rfl dLW_3 ?_
  refine gk_BV F (gc_I F (S := [sg_r 0]) (As := []) (NX11_init t1 f1) t1.1 kw_116 kw_90 kw_114 kw_115 rfl hcX11_init ⟨by decide, by decide⟩ rfl rfl (Nat.le_of_ble_eq_true rfl) ⟨by decide, by decide⟩ dLW_4) (List.forall_mem_cons.mpr ⟨trivial, fun _ h => absurd h List.not_mem_nil⟩) (List.forall_mem_cons.mpr ⟨Or.inl t1.2.1, fun _ h => absurd h List.not_mem_nil⟩) (fun La2 s2 X2 hf2 => ?_)
  obtain ⟨n2, k2, c2, V2⟩ := hf2
  refine gw_astore_n F (i := 1) (L' := [(1, sg_r 0), (0, sg_a b)]) rfl (by decide) (by decide) rfl dLW_7 ?_
  have v1 : sg_vok La2 (sg_r 0) := Or.inl (by rw [n2]; decide)
  refine gy_new F (kd := 32) (T := TX12) (by decide) rfl sg_lay_RX12 tyX12_ok kw_950 kw_951 kw_103 ns_X12 nf_X12 nr_X12 (by decide) (by decide) (List.forall_mem_cons.mpr ⟨v1, List.forall_mem_cons.mpr ⟨trivial, fun _ h => absurd h List.not_mem_nil⟩⟩) (fun _ h => absurd h List.not_mem_nil) dLW_8 (fun q3 La3 s3 o3 e4 e5 e6 t3 X3 => ?_)
  have o64 : o3 = 64 := by rw [e6, n2]; rfl
  subst o64
  have n3 : La3.1 = 65 := by rw [e4, sp_pu1, n2]
  have f3 : fX12_init La3 s3 64 (lz_Q2 La3 s3) := t12_init n3 (fun f => by rw [e5]; unfold sg_nw; rw [if_pos (by rw [n2]; rfl)]) (fun La' s' a b c d e f g => ⟨a, b, c, d, e, f, g⟩)
  have v3 : sg_vok La3 (sg_r 0) := Or.inl (by rw [n3]; decide)
  refine gw_dup F rfl dLW_11 ?_
  refine gk_BV F (gc_I F (S := [sg_r 64]) (As := []) (CX12_init t3 f3) t3.1 kw_954 kw_103 kw_952 kw_953 rfl hcX12_init ⟨by decide, by decide⟩ rfl rfl (Nat.le_of_ble_eq_true rfl) ⟨by decide, by decide⟩ dLW_12) (List.forall_mem_cons.mpr ⟨v3, List.forall_mem_cons.mpr ⟨trivial, fun _ h => absurd h List.not_mem_nil⟩⟩) (List.forall_mem_cons.mpr ⟨Or.inl t3.2.1, fun _ h => absurd h List.not_mem_nil⟩) (fun La4 s4 X4 hf4 => ?_)
  obtain ⟨n4, ka, kb, z4, u4, g4, w4⟩ := hf4
  refine gw_astore_n F (i := 2) (L' := [(2, sg_r 64), (1, sg_r 0), (0, sg_a b)]) rfl (by decide) (by decide) rfl dLW_15 ?_
  refine gw_iconst F dLW_16 ?_
  have v4 : sg_vok La4 (sg_r 0) := Or.inl (by rw [n4]; decide)
  have v5 : sg_vok La4 (sg_r 64) := Or.inl (by rw [n4]; decide)
  refine gy_newJ F (N := 1) kw_1351 rfl (by decide) (by decide) (by decide) (List.forall_mem_cons.mpr ⟨v5, List.forall_mem_cons.mpr ⟨v4, List.forall_mem_cons.mpr ⟨trivial, fun _ h => absurd h List.not_mem_nil⟩⟩⟩) (fun _ h => absurd h List.not_mem_nil) dLW_17 (fun q5 La5 s5 o5 e7 e8 e9 t5 X5 => ?_)
  have o88 : o5 = 88 := by rw [e9, n4]; rfl
  subst o88
  refine gw_astore_n F (i := 3) (L' := [(3, sg_r 88), (2, sg_r 64), (1, sg_r 0), (0, sg_a b)]) rfl (by decide) (by decide) rfl dLW_19 ?_
  refine gw_iconst F dLW_20 ?_
  refine gw_istore F (L' := [(4, sg_i 0), (3, sg_r 88), (2, sg_r 64), (1, sg_r 0), (0, sg_a b)]) (by decide) rfl dLW_21 ?_
  refine gl_sub (L' := lwL b 0) [4, 3, 2, 1, 0] rfl ?_
  have lo : ∀ c i : Int, c < 64 → s4 c i = s2 c i := fun c i h => by rw [u4 c i h, e5]; exact sp_nwN (by rw [n2]; omega)
  have HI : sl_I La5 s5 := by
    refine lz_start n4 (fun j hj => ?_) ?_ (V2.fr lo (by decide +kernel)) z4 g4 w4 e7 e8
    · rcases Nat.lt_or_ge j 64 with h | h
      · rw [ka j h, e4, sg_pu_kd (by rw [n2]; exact h)]; exact k2 j h
      · exact kb j h hj
    · obtain ⟨b1, b2, b3, b4⟩ := c2
      refine ⟨by rw [lo 5 4 (by omega)]; exact b1, by rw [lo 5 5 (by omega)]; exact b2, by rw [lo 5 6 (by omega)]; exact b3, fun i h0 h1 => ?_⟩
      rw [lo _ _ (by omega), lo _ _ (by omega), lo _ _ (by omega), lo _ _ (by omega)]
      exact b4 i h0 h1
  exact ls_loop hl0 F hX hbl hbA hn (Mc := 601024) (Ms := 7293034) (Nat.le_refl _) (Nat.le_refl _) ke 512 0 La5 s5 _ _ (by omega) (by omega) (by omega) HI (Nat.le_of_ble_eq_true rfl) (Nat.le_of_ble_eq_true rfl)
/-- an empty layout stands in every heap -/
theorem lz_H {G : sg_G} {A : Nat → Prop} {H : Heap} : sg_H G A lz_L lz_S H := by
  refine ⟨fun k q hq => ?_, ⟨fun i j p q hp => ?_, fun k q hq => ?_⟩, fun k hk => absurd hk (Nat.not_lt_zero _)⟩
  · cases hq
  · cases hp
  · cases hq
end SGLP
