section SGZ
theorem sg_R_64 {x : Int} (h : sg_R x) : sg_R64 x := ⟨by omega, by omega⟩
theorem sg_cmp_R (x y : Int) : sg_R (sg_cmp x y) := by
  unfold sg_cmp
  split
  · exact ⟨by omega, by omega⟩
  · split <;> exact ⟨by omega, by omega⟩
theorem sg_max_R {x y : Int} (h1 : sg_R x) (h2 : sg_R y) : sg_R (sg_max x y) := by
  unfold sg_max
  split <;> assumption
theorem sg_min_R {x y : Int} (h1 : sg_R x) (h2 : sg_R y) : sg_R (sg_min x y) := by
  unfold sg_min
  split <;> assumption
theorem kw_OI : Cond.instanceMethod Lib.objectInit ∈ sg_W0 := kw_118
theorem kw_OC : Cond.code Lib.objectInit ⟨#[0xb1]⟩ 1 none ∈ sg_W0 := kw_119
theorem kw_math : Cond.initialized "java/lang/Math" ∈ sg_W0 := kw_98
theorem kw_max1 : Cond.static Lib.Math.max.name ∈ sg_W0 := kw_197
theorem kw_max2 : Cond.code Lib.Math.max.name Lib.Math.max.code 2 (some .int) ∈ sg_W0 := kw_198
theorem kw_min1 : Cond.static Lib.Math.min.name ∈ sg_W0 := kw_459
theorem kw_min2 : Cond.code Lib.Math.min.name Lib.Math.min.code 2 (some .int) ∈ sg_W0 := kw_460
theorem kw_abs1 : Cond.static Lib.Math.abs.name ∈ sg_W0 := kw_525
theorem kw_abs2 : Cond.code Lib.Math.abs.name Lib.Math.abs.code 1 (some .int) ∈ sg_W0 := kw_526
section SGZ2
variable {p : Program} {l : Launch} {e : Env} {R : Room} {s : State} {m : MethodId} {args : Array Value} {below : List Frame} {meth : Method} {c : Code} {Q : State → Prop} {G : sg_G} {A : Nat → Prop} {Λ : sg_L} {σ σ1 : sg_M} {cells slots : Nat} {own : String} {cc : ByteArray} {nL : Nat} {ret : Option FieldType} {pc : Nat} {L L' : List (Nat × sg_V)} {S : List sg_V}
theorem gw_ldcw (F : sg_F p s m args meth c own cc nL ret G A) {n : Int} {idx : Nat} {v : Int32} (hw : Cond.constant own idx v ∈ sg_W0) (hv : v = Int32.ofInt n) (hd : decode cc pc = .ok (.ldc_w idx, 3)) (k : sg_W p l e R s m args below meth c Q nL G A Λ σ cells slots (pc + 3) L (sg_i n :: S)) : sg_W p l e R s m args below meth c Q nL G A Λ σ cells slots pc L S := by
  intro H locs ls hH hS hl
  subst hv
  exact lv_ldcw F.1 F.2.1 F.2.2.2.2.1 (F.2.2.2.2.2.1 _ hw) hd (k H locs ls hH hS hl)
end SGZ2
end SGZ
