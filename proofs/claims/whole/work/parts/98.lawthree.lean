section SGLC3
variable {p : Program} {l : Launch} {e : Env} {R : Room} {s : State} {m : MethodId} {args : Array Value} {below : List Frame} {meth : Method} {c : Code} {Q : State → Prop} {G : sg_G} {A : Nat → Prop} {Λ : sg_L} {σ σ1 : sg_M} {cells slots : Nat} {own : String} {cc : ByteArray} {nL : Nat} {ret : Option FieldType} {pc : Nat} {L L' : List (Nat × sg_V)} {S : List sg_V}
theorem gk_HIm (F : sg_F p s m args meth c own cc nL ret G A) {mc ms : Nat} {Qr : Int → sg_M → Prop} {st : List sg_V} (hr : sg_Rn p l e R s m args below meth c nL G A Λ σ cells slots pc L st S (some .int) mc ms (sg_HI Λ Qr)) (kk : ∀ (r : Int) (σ' : sg_M), sg_R r → Qr r σ' → sg_W p l e R s m args below meth c Q nL G A Λ σ' (cells + mc) (slots + ms) (pc + 3) L (sg_i r :: S)) : sg_W p l e R s m args below meth c Q nL G A Λ σ cells slots pc L st := by
  obtain ⟨a, hr⟩ := hr
  refine sg_run F hr (fun v Λ' σ' h _ w _ => by rw [h.1]) (fun v Λ' σ' h _ q _ => by rw [h.1]) (fun v Λ' σ' h _ => ?_)
  obtain ⟨rfl, r, rfl, h1, h2⟩ := h
  exact kk r σ' h1 h2
theorem sl_cmp (x : Int) : sg_cmp x x = 0 := by unfold sg_cmp; (repeat' split) <;> omega
end SGLC3
section SGLC4
def lq_piece (x1 x2 : Int) (K : sg_M → Prop) (k : Int) (s1 : sg_M) : Prop := fX12_piece s1 x1 x2 (fun v s2 => fX12_thrown s2 (fun w => w = k ∧ (k = 0 → s2 88 0 = v) ∧ K s2))
theorem lc_piece {p : Program} {l : Launch} {e : Env} {s : State} {m : MethodId} {args : Array Value} {below : List Frame} {meth : Method} {c : Code} {Q : State → Prop} {G : sg_G} {A : Nat → Prop} {La : sg_L} {s0 : sg_M} {cells slots : Nat} {b n : Nat} {xs : Nat → Int32} {i : Int} {K : sg_M → Prop} (hl0 : l.stackTraces = false) (F : sg_F p s m args meth c RL cL_law 7 (some .boolean) G A) (hX : va_X b n xs s s.heap) (hbl : b < s.heap.size) (hbA : ¬ A b) (hn : n ≤ 3072) (h0 : 0 ≤ i) (h6 : i + 6 ≤ n) (hst : sg_St La) (t88 : sg_O La 88 50001) (hc : cells + 7 ≤ 601024) (hs : slots + 700 ≤ 7293034) (hK : ∀ s2, K s2 → sg_W p l e room_1 s m args below meth c Q 7 G A La s2 (cells + 1) (slots + 6) 1457 (lwL b i) []) (hf : fX11_piece s0 (sl_v xs (i + 1)) (sl_v xs (i + 2)) (lq_piece (sl_v xs (i + 1)) (sl_v xs (i + 2)) K 1 s0) (fun u => lq_piece (sl_v xs (i + 1)) (sl_v xs (i + 2)) K 0 (sg_up s0 88 0 u))) : sg_W p l e room_1 s m args below meth c Q 7 G A La s0 cells slots 324 (lwL b i) [] := by
  refine gw_aload_n F 1 rfl rfl (by decide) dLW_324 ?_
  refine gl_arg F hX hbl hbA hn h0 h6 (j := 1) (by decide) 0 4 rfl rfl dLW_325 dLW_326 dLW_328 dLW_329 dLW_330 ?_
  refine gl_arg F hX hbl hbA hn h0 h6 (j := 2) (by decide) 0 4 rfl rfl dLW_331 dLW_332 dLW_334 dLW_335 dLW_336 ?_
  refine gw_aload_n F 3 rfl rfl (by decide) dLW_337 ?_
  refine gk_HIm F (gc_H F (S := []) (As := [sg_r 0, sg_i (sl_v xs (i + 1)), sg_i (sl_v xs (i + 2)), sg_r 88]) (CL_piece hl0 hst t88 (sl_R xs _) (sl_R xs _) (Q := lq_piece (sl_v xs (i + 1)) (sl_v xs (i + 2)) K) hf) wL_piece kw_89 kw_881 kw_882 hcL_piece ⟨by decide, by decide⟩ rfl rfl (Nat.le_of_ble_eq_true rfl) ⟨by show _ + 1 ≤ 601024; omega, by show _ + 6 ≤ 7293034; omega⟩ dLW_338) (fun u s1 hu hf => ?_)
  refine gw_istore F (L' := [(5, sg_i u), (0, sg_a b), (1, sg_r 0), (2, sg_r 64), (3, sg_r 88), (4, sg_i i)]) (by decide) rfl dLW_341 ?_
  refine gw_aload_n F 3 rfl rfl (by decide) dLW_343 ?_
  refine gl_arg F hX hbl hbA hn h0 h6 (j := 1) (by decide) 1 5 rfl rfl dLW_344 dLW_345 dLW_347 dLW_348 dLW_349 ?_
  refine gl_arg F hX hbl hbA hn h0 h6 (j := 2) (by decide) 1 5 rfl rfl dLW_350 dLW_351 dLW_353 dLW_354 dLW_355 ?_
  refine gk_HI F (gc_V F (S := []) (As := [sg_i (sl_v xs (i + 1)), sg_i (sl_v xs (i + 2))]) (T := TX12) (N := 62) (CX12_piece hst (sl_R xs _) (sl_R xs _) hf) (so_64 hst) (by decide) rfl kw_1101 kw_103 kw_1098 kw_1099 kw_1100 hcX12_piece ⟨by decide, by decide⟩ rfl rfl (Nat.le_of_ble_eq_true rfl) ⟨by show _ + 0 ≤ 601024; omega, by show _ + 0 ≤ 7293034; omega⟩ dLW_356) (fun v s2 hv hf => ?_)
  refine gw_istore F (L' := [(6, sg_i v), (5, sg_i u), (0, sg_a b), (1, sg_r 0), (2, sg_r 64), (3, sg_r 88), (4, sg_i i)]) (by decide) rfl dLW_359 ?_
  refine gw_aload_n F 4 rfl rfl (by decide) dLW_361 ?_
  refine gk_PI F (gc_V F (S := []) (As := []) (T := TX12) (N := 62) (CX12_thrown hst  hf) (so_64 hst) (by decide) rfl kw_1022 kw_103 kw_1019 kw_1020 kw_1021 hcX12_thrown ⟨by decide, by decide⟩ rfl rfl (Nat.le_of_ble_eq_true rfl) ⟨by show _ + 0 ≤ 601024; omega, by show _ + 0 ≤ 7293034; omega⟩ dLW_362) (fun w hw hf => ?_)
  refine gw_iload F 1 rfl dLW_365 ?_
  refine gw_icmp_eq F (tgt := 372) dLW_367 (by decide) hw hu (fun _ => ?_) (fun h => absurd hf.1 h)
  refine gw_iload F 1 rfl dLW_372 ?_
  refine gw_if_ne F (tgt := 389) dLW_374 (by decide) hu (fun _ => ?_) (fun hk => ?_)
  · refine gw_goto F (tgt := 1457) dLW_389 (by decide) ?_
    exact gl_sub [2, 3, 4, 5, 6] rfl (hK s2 hf.2.2)
  · refine gw_aload_n F 5 rfl rfl (by decide) dLW_377 ?_
    refine gw_iconst F dLW_378 ?_
    refine gw_lald F (kd := 50001) (n := 1) t88 (by decide) (by decide) (by decide) (by decide) (by decide) dLW_379 (fun h64 => ?_)
    refine gw_iload F 0 rfl dLW_380 ?_
    refine gw_i2l F hv dLW_382 ?_
    refine gw_lcmp F h64 ⟨by omega, by omega⟩ rfl dLW_383 ?_
    have e0 : sg_cmp (s2 88 0) v = 0 := by rw [hf.2.1 hk]; exact sl_cmp v
    rw [e0]
    refine gw_if_eq F (tgt := 389) dLW_384 (by decide) (by decide) (fun _ => ?_) (fun h => absurd rfl h)
    refine gw_goto F (tgt := 1457) dLW_389 (by decide) ?_
    exact gl_sub [2, 3, 4, 5, 6] rfl (hK s2 hf.2.2)
def lq_bend (x1 x2 x3 x4 : Int) (K : sg_M → Prop) (k : Int) (s1 : sg_M) : Prop := fX12_bend s1 x1 x2 x3 x4 (fun v s2 => fX12_thrown s2 (fun w => w = k ∧ (k = 0 → s2 88 0 = v) ∧ K s2))
theorem lc_bend {p : Program} {l : Launch} {e : Env} {s : State} {m : MethodId} {args : Array Value} {below : List Frame} {meth : Method} {c : Code} {Q : State → Prop} {G : sg_G} {A : Nat → Prop} {La : sg_L} {s0 : sg_M} {cells slots : Nat} {b n : Nat} {xs : Nat → Int32} {i : Int} {K : sg_M → Prop} (hl0 : l.stackTraces = false) (F : sg_F p s m args meth c RL cL_law 7 (some .boolean) G A) (hX : va_X b n xs s s.heap) (hbl : b < s.heap.size) (hbA : ¬ A b) (hn : n ≤ 3072) (h0 : 0 ≤ i) (h6 : i + 6 ≤ n) (hst : sg_St La) (t88 : sg_O La 88 50001) (hc : cells + 7 ≤ 601024) (hs : slots + 700 ≤ 7293034) (hK : ∀ s2, K s2 → sg_W p l e room_1 s m args below meth c Q 7 G A La s2 (cells + 1) (slots + 6) 1457 (lwL b i) []) (hf : fX11_bend s0 (sl_v xs (i + 1)) (sl_v xs (i + 2)) (sl_v xs (i + 3)) (sl_v xs (i + 4)) (lq_bend (sl_v xs (i + 1)) (sl_v xs (i + 2)) (sl_v xs (i + 3)) (sl_v xs (i + 4)) K 1 s0) (fun u => lq_bend (sl_v xs (i + 1)) (sl_v xs (i + 2)) (sl_v xs (i + 3)) (sl_v xs (i + 4)) K 0 (sg_up s0 88 0 u))) : sg_W p l e room_1 s m args below meth c Q 7 G A La s0 cells slots 392 (lwL b i) [] := by
  refine gw_aload_n F 1 rfl rfl (by decide) dLW_392 ?_
  refine gl_arg F hX hbl hbA hn h0 h6 (j := 1) (by decide) 0 4 rfl rfl dLW_393 dLW_394 dLW_396 dLW_397 dLW_398 ?_
  refine gl_arg F hX hbl hbA hn h0 h6 (j := 2) (by decide) 0 4 rfl rfl dLW_399 dLW_400 dLW_402 dLW_403 dLW_404 ?_
  refine gl_arg F hX hbl hbA hn h0 h6 (j := 3) (by decide) 0 4 rfl rfl dLW_405 dLW_406 dLW_408 dLW_409 dLW_410 ?_
  refine gl_arg F hX hbl hbA hn h0 h6 (j := 4) (by decide) 0 4 rfl rfl dLW_411 dLW_412 dLW_414 dLW_415 dLW_416 ?_
  refine gw_aload_n F 3 rfl rfl (by decide) dLW_417 ?_
  refine gk_HIm F (gc_H F (S := []) (As := [sg_r 0, sg_i (sl_v xs (i + 1)), sg_i (sl_v xs (i + 2)), sg_i (sl_v xs (i + 3)), sg_i (sl_v xs (i + 4)), sg_r 88]) (CL_bend hl0 hst t88 (sl_R xs _) (sl_R xs _) (sl_R xs _) (sl_R xs _) (Q := lq_bend (sl_v xs (i + 1)) (sl_v xs (i + 2)) (sl_v xs (i + 3)) (sl_v xs (i + 4)) K) hf) wL_bend kw_89 kw_931 kw_932 hcL_bend ⟨by decide, by decide⟩ rfl rfl (Nat.le_of_ble_eq_true rfl) ⟨by show _ + 1 ≤ 601024; omega, by show _ + 6 ≤ 7293034; omega⟩ dLW_418) (fun u s1 hu hf => ?_)
  refine gw_istore F (L' := [(5, sg_i u), (0, sg_a b), (1, sg_r 0), (2, sg_r 64), (3, sg_r 88), (4, sg_i i)]) (by decide) rfl dLW_421 ?_
  refine gw_aload_n F 3 rfl rfl (by decide) dLW_423 ?_
  refine gl_arg F hX hbl hbA hn h0 h6 (j := 1) (by decide) 1 5 rfl rfl dLW_424 dLW_425 dLW_427 dLW_428 dLW_429 ?_
  refine gl_arg F hX hbl hbA hn h0 h6 (j := 2) (by decide) 1 5 rfl rfl dLW_430 dLW_431 dLW_433 dLW_434 dLW_435 ?_
  refine gl_arg F hX hbl hbA hn h0 h6 (j := 3) (by decide) 1 5 rfl rfl dLW_436 dLW_437 dLW_439 dLW_440 dLW_441 ?_
  refine gl_arg F hX hbl hbA hn h0 h6 (j := 4) (by decide) 1 5 rfl rfl dLW_442 dLW_443 dLW_445 dLW_446 dLW_447 ?_
  refine gk_HI F (gc_V F (S := []) (As := [sg_i (sl_v xs (i + 1)), sg_i (sl_v xs (i + 2)), sg_i (sl_v xs (i + 3)), sg_i (sl_v xs (i + 4))]) (T := TX12) (N := 62) (CX12_bend hst (sl_R xs _) (sl_R xs _) (sl_R xs _) (sl_R xs _) hf) (so_64 hst) (by decide) rfl kw_1114 kw_103 kw_1111 kw_1112 kw_1113 hcX12_bend ⟨by decide, by decide⟩ rfl rfl (Nat.le_of_ble_eq_true rfl) ⟨by show _ + 0 ≤ 601024; omega, by show _ + 0 ≤ 7293034; omega⟩ dLW_448) (fun v s2 hv hf => ?_)
  refine gw_istore F (L' := [(6, sg_i v), (5, sg_i u), (0, sg_a b), (1, sg_r 0), (2, sg_r 64), (3, sg_r 88), (4, sg_i i)]) (by decide) rfl dLW_451 ?_
  refine gw_aload_n F 4 rfl rfl (by decide) dLW_453 ?_
  refine gk_PI F (gc_V F (S := []) (As := []) (T := TX12) (N := 62) (CX12_thrown hst  hf) (so_64 hst) (by decide) rfl kw_1022 kw_103 kw_1019 kw_1020 kw_1021 hcX12_thrown ⟨by decide, by decide⟩ rfl rfl (Nat.le_of_ble_eq_true rfl) ⟨by show _ + 0 ≤ 601024; omega, by show _ + 0 ≤ 7293034; omega⟩ dLW_454) (fun w hw hf => ?_)
  refine gw_iload F 1 rfl dLW_457 ?_
  refine gw_icmp_eq F (tgt := 464) dLW_459 (by decide) hw hu (fun _ => ?_) (fun h => absurd hf.1 h)
  refine gw_iload F 1 rfl dLW_464 ?_
  refine gw_if_ne F (tgt := 481) dLW_466 (by decide) hu (fun _ => ?_) (fun hk => ?_)
  · refine gw_goto F (tgt := 1457) dLW_481 (by decide) ?_
    exact gl_sub [2, 3, 4, 5, 6] rfl (hK s2 hf.2.2)
  · refine gw_aload_n F 5 rfl rfl (by decide) dLW_469 ?_
    refine gw_iconst F dLW_470 ?_
    refine gw_lald F (kd := 50001) (n := 1) t88 (by decide) (by decide) (by decide) (by decide) (by decide) dLW_471 (fun h64 => ?_)
    refine gw_iload F 0 rfl dLW_472 ?_
    refine gw_i2l F hv dLW_474 ?_
    refine gw_lcmp F h64 ⟨by omega, by omega⟩ rfl dLW_475 ?_
    have e0 : sg_cmp (s2 88 0) v = 0 := by rw [hf.2.1 hk]; exact sl_cmp v
    rw [e0]
    refine gw_if_eq F (tgt := 481) dLW_476 (by decide) (by decide) (fun _ => ?_) (fun h => absurd rfl h)
    refine gw_goto F (tgt := 1457) dLW_481 (by decide) ?_
    exact gl_sub [2, 3, 4, 5, 6] rfl (hK s2 hf.2.2)
def lq_tick (x1 x2 : Int) (K : sg_M → Prop) (k : Int) (s1 : sg_M) : Prop := fX12_tick s1 x1 x2 (fun v s2 => fX12_thrown s2 (fun w => w = k ∧ (k = 0 → s2 88 0 = v) ∧ K s2))
theorem lc_tick {p : Program} {l : Launch} {e : Env} {s : State} {m : MethodId} {args : Array Value} {below : List Frame} {meth : Method} {c : Code} {Q : State → Prop} {G : sg_G} {A : Nat → Prop} {La : sg_L} {s0 : sg_M} {cells slots : Nat} {b n : Nat} {xs : Nat → Int32} {i : Int} {K : sg_M → Prop} (hl0 : l.stackTraces = false) (F : sg_F p s m args meth c RL cL_law 7 (some .boolean) G A) (hX : va_X b n xs s s.heap) (hbl : b < s.heap.size) (hbA : ¬ A b) (hn : n ≤ 3072) (h0 : 0 ≤ i) (h6 : i + 6 ≤ n) (hst : sg_St La) (t88 : sg_O La 88 50001) (hc : cells + 7 ≤ 601024) (hs : slots + 700 ≤ 7293034) (hK : ∀ s2, K s2 → sg_W p l e room_1 s m args below meth c Q 7 G A La s2 (cells + 1) (slots + 6) 1457 (lwL b i) []) (hf : fX11_tick La s0 (sl_v xs (i + 1)) (sl_v xs (i + 2)) (lq_tick (sl_v xs (i + 1)) (sl_v xs (i + 2)) K 1 s0) (fun u t => lq_tick (sl_v xs (i + 1)) (sl_v xs (i + 2)) K 0 (sg_up t 88 0 u))) : sg_W p l e room_1 s m args below meth c Q 7 G A La s0 cells slots 780 (lwL b i) [] := by
  refine gw_aload_n F 1 rfl rfl (by decide) dLW_780 ?_
  refine gl_arg F hX hbl hbA hn h0 h6 (j := 1) (by decide) 0 4 rfl rfl dLW_781 dLW_782 dLW_784 dLW_785 dLW_786 ?_
  refine gl_arg F hX hbl hbA hn h0 h6 (j := 2) (by decide) 0 4 rfl rfl dLW_787 dLW_788 dLW_790 dLW_791 dLW_792 ?_
  refine gw_aload_n F 3 rfl rfl (by decide) dLW_793 ?_
  refine gk_HIm F (gc_H F (S := []) (As := [sg_r 0, sg_i (sl_v xs (i + 1)), sg_i (sl_v xs (i + 2)), sg_r 88]) (CL_tick hl0 hst t88 (sl_R xs _) (sl_R xs _) (Q := lq_tick (sl_v xs (i + 1)) (sl_v xs (i + 2)) K) hf) wL_tick kw_89 kw_944 kw_945 hcL_tick ⟨by decide, by decide⟩ rfl rfl (Nat.le_of_ble_eq_true rfl) ⟨by show _ + 1 ≤ 601024; omega, by show _ + 6 ≤ 7293034; omega⟩ dLW_794) (fun u s1 hu hf => ?_)
  refine gw_istore F (L' := [(5, sg_i u), (0, sg_a b), (1, sg_r 0), (2, sg_r 64), (3, sg_r 88), (4, sg_i i)]) (by decide) rfl dLW_797 ?_
  refine gw_aload_n F 3 rfl rfl (by decide) dLW_799 ?_
  refine gl_arg F hX hbl hbA hn h0 h6 (j := 1) (by decide) 1 5 rfl rfl dLW_800 dLW_801 dLW_803 dLW_804 dLW_805 ?_
  refine gl_arg F hX hbl hbA hn h0 h6 (j := 2) (by decide) 1 5 rfl rfl dLW_806 dLW_807 dLW_809 dLW_810 dLW_811 ?_
  refine gk_HI F (gc_V F (S := []) (As := [sg_i (sl_v xs (i + 1)), sg_i (sl_v xs (i + 2))]) (T := TX12) (N := 62) (CX12_tick hst (sl_R xs _) (sl_R xs _) hf) (so_64 hst) (by decide) rfl kw_1199 kw_103 kw_1196 kw_1197 kw_1198 hcX12_tick ⟨by decide, by decide⟩ rfl rfl (Nat.le_of_ble_eq_true rfl) ⟨by show _ + 0 ≤ 601024; omega, by show _ + 0 ≤ 7293034; omega⟩ dLW_812) (fun v s2 hv hf => ?_)
  refine gw_istore F (L' := [(6, sg_i v), (5, sg_i u), (0, sg_a b), (1, sg_r 0), (2, sg_r 64), (3, sg_r 88), (4, sg_i i)]) (by decide) rfl dLW_815 ?_
  refine gw_aload_n F 4 rfl rfl (by decide) dLW_817 ?_
  refine gk_PI F (gc_V F (S := []) (As := []) (T := TX12) (N := 62) (CX12_thrown hst  hf) (so_64 hst) (by decide) rfl kw_1022 kw_103 kw_1019 kw_1020 kw_1021 hcX12_thrown ⟨by decide, by decide⟩ rfl rfl (Nat.le_of_ble_eq_true rfl) ⟨by show _ + 0 ≤ 601024; omega, by show _ + 0 ≤ 7293034; omega⟩ dLW_818) (fun w hw hf => ?_)
  refine gw_iload F 1 rfl dLW_821 ?_
  refine gw_icmp_eq F (tgt := 828) dLW_823 (by decide) hw hu (fun _ => ?_) (fun h => absurd hf.1 h)
  refine gw_iload F 1 rfl dLW_828 ?_
  refine gw_if_ne F (tgt := 845) dLW_830 (by decide) hu (fun _ => ?_) (fun hk => ?_)
  · refine gw_goto F (tgt := 1457) dLW_845 (by decide) ?_
    exact gl_sub [2, 3, 4, 5, 6] rfl (hK s2 hf.2.2)
  · refine gw_aload_n F 5 rfl rfl (by decide) dLW_833 ?_
    refine gw_iconst F dLW_834 ?_
    refine gw_lald F (kd := 50001) (n := 1) t88 (by decide) (by decide) (by decide) (by decide) (by decide) dLW_835 (fun h64 => ?_)
    refine gw_iload F 0 rfl dLW_836 ?_
    refine gw_i2l F hv dLW_838 ?_
    refine gw_lcmp F h64 ⟨by omega, by omega⟩ rfl dLW_839 ?_
    have e0 : sg_cmp (s2 88 0) v = 0 := by rw [hf.2.1 hk]; exact sl_cmp v
    rw [e0]
    refine gw_if_eq F (tgt := 845) dLW_840 (by decide) (by decide) (fun _ => ?_) (fun h => absurd rfl h)
    refine gw_goto F (tgt := 1457) dLW_845 (by decide) ?_
    exact gl_sub [2, 3, 4, 5, 6] rfl (hK s2 hf.2.2)
end SGLC4
