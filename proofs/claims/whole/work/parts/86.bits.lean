/-! LEVEL 2: a stack of truths as the bits of a number; what holds. -/
noncomputable section SGBi
theorem tq_tn (n : Nat) (h : n < 4294967296) : (Int32.ofInt n).toBitVec.toNat = n := by
  show (BitVec.ofInt 32 n).toNat = n
  rw [BitVec.ofInt_natCast, BitVec.toNat_ofNat]
  exact Nat.mod_eq_of_lt h
theorem tq_ti (x : Int32) (h : x.toBitVec.toNat < 2147483648) : x.toInt = x.toBitVec.toNat := BitVec.toInt_eq_toNat_of_lt (by omega)
theorem tq_or1 (n : Nat) : n ||| 1 = 2 * (n / 2) + 1 := by
  refine Nat.eq_of_testBit_eq fun i => ?_
  rw [Nat.testBit_or]
  cases i with
  | zero => simp [Nat.testBit_zero]
  | succ i => simp [Nat.testBit_succ]; rw [show (2 * (n / 2) + 1) / 2 = n / 2 by omega]
theorem tq_xor1 (n : Nat) : n ^^^ 1 = 2 * (n / 2) + (1 - n % 2) := by
  refine Nat.eq_of_testBit_eq fun i => ?_
  rw [Nat.testBit_xor]
  cases i with
  | zero =>
    rcases Nat.mod_two_eq_zero_or_one n with h | h <;> simp [Nat.testBit_zero, h] <;> omega
  | succ i => simp [Nat.testBit_succ]; rw [show (2 * (n / 2) + (1 - n % 2)) / 2 = n / 2 by omega]
theorem tq_andm (n : Nat) (h : n < 4294967296) : n &&& 4294967294 = 2 * (n / 2) := by
  refine Nat.eq_of_testBit_eq fun i => ?_
  rw [Nat.testBit_and]
  cases i with
  | zero => simp [Nat.testBit_zero]
  | succ i =>
    rw [Nat.testBit_succ, Nat.testBit_succ, Nat.testBit_succ, show 4294967294 / 2 = 2 ^ 31 - 1 by decide, Nat.testBit_two_pow_sub_one, show 2 * (n / 2) / 2 = n / 2 by omega]
    by_cases hi : i < 31
    · simp [hi]
    · have : (n / 2).testBit i = false := Nat.testBit_lt_two_pow (Nat.lt_of_lt_of_le (show n / 2 < 2 ^ 31 by omega) (Nat.pow_le_pow_right (by omega) (by omega)))
      simp [hi, this]
theorem sg_orN {n m k : Nat} (hn : n < 4294967296) (hm : m < 4294967296) (h : n ||| m = k) (hk : k < 2147483648) : sg_or n m = k := by
  unfold sg_or
  have e : (Int32.ofInt n ||| Int32.ofInt m).toBitVec.toNat = k := by
    show ((Int32.ofInt n).toBitVec ||| (Int32.ofInt m).toBitVec).toNat = k
    rw [BitVec.toNat_or, tq_tn n hn, tq_tn m hm]; exact h
  rw [tq_ti _ (by omega), e]
theorem sg_xorN {n m k : Nat} (hn : n < 4294967296) (hm : m < 4294967296) (h : n ^^^ m = k) (hk : k < 2147483648) : sg_xor n m = k := by
  unfold sg_xor
  have e : (Int32.ofInt n ^^^ Int32.ofInt m).toBitVec.toNat = k := by
    show ((Int32.ofInt n).toBitVec ^^^ (Int32.ofInt m).toBitVec).toNat = k
    rw [BitVec.toNat_xor, tq_tn n hn, tq_tn m hm]; exact h
  rw [tq_ti _ (by omega), e]
theorem sg_and1 {n : Nat} (hn : n < 2147483648) : sg_and n 1 = ((n % 2 : Nat) : Int) := by
  unfold sg_and
  have e : (Int32.ofInt n &&& Int32.ofInt 1).toBitVec.toNat = n % 2 := by
    show ((Int32.ofInt n).toBitVec &&& (Int32.ofInt ((1 : Nat) : Int)).toBitVec).toNat = n % 2
    rw [BitVec.toNat_and, tq_tn n (by omega), tq_tn 1 (by omega), Nat.and_one_is_mod]
  rw [tq_ti _ (by omega), e]
theorem sg_ushr1 {n : Nat} (hn : n < 2147483648) : sg_ushr n 1 = ((n / 2 : Nat) : Int) := by
  unfold sg_ushr
  have e1 : Int32.ofInt (n : Int) = nI n := by
    apply Int32.toBitVec_inj.mp
    apply BitVec.eq_of_toNat_eq
    rw [tq_tn n (by omega)]
    exact (pk_tn (by omega)).symm
  rw [e1, pk_ushrN (by omega) (Int32.ofInt 1) 1 (by decide), nI_toInt (by omega)]
theorem sg_shl1 {n : Nat} (hn : n < 1073741824) : sg_shl n 1 = ((2 * n : Nat) : Int) := by
  unfold sg_shl
  have e1 : Int32.ofInt (n : Int) = nI n := by
    apply Int32.toBitVec_inj.mp
    apply BitVec.eq_of_toNat_eq
    rw [tq_tn n (by omega)]
    exact (pk_tn (by omega)).symm
  rw [e1, pk_shlN (Int32.ofInt 1 &&& 31) 1 (by decide) (by omega), nI_toInt (by omega)]
  omega
theorem sg_andT {n : Nat} (hn : n < 2147483648) : sg_and n (sg_or 1 (-2)) = n := by
  have e0 : sg_or 1 (-2) = -1 := by decide +kernel
  rw [e0]
  unfold sg_and
  have e : (Int32.ofInt n &&& Int32.ofInt (-1)).toBitVec.toNat = n := by
    show ((Int32.ofInt n).toBitVec &&& (Int32.ofInt (-1)).toBitVec).toNat = n
    rw [BitVec.toNat_and, tq_tn n (by omega), show (Int32.ofInt (-1)).toBitVec.toNat = 2 ^ 32 - 1 by decide, Nat.and_two_pow_sub_one_eq_mod]
    exact Nat.mod_eq_of_lt (by omega)
  rw [tq_ti _ (by omega), e]
theorem sg_andF {n : Nat} (hn : n < 2147483648) : sg_and n (sg_or 0 (-2)) = ((2 * (n / 2) : Nat) : Int) := by
  have e0 : sg_or 0 (-2) = -2 := by decide +kernel
  rw [e0]
  unfold sg_and
  have e : (Int32.ofInt n &&& Int32.ofInt (-2)).toBitVec.toNat = 2 * (n / 2) := by
    show ((Int32.ofInt n).toBitVec &&& (Int32.ofInt (-2)).toBitVec).toNat = 2 * (n / 2)
    rw [BitVec.toNat_and, tq_tn n (by omega), show (Int32.ofInt (-2)).toBitVec.toNat = 4294967294 by decide]
    exact tq_andm n (by omega)
  rw [tq_ti _ (by omega), e]
def sBb (b : Bool) : Nat := if b then 1 else 0
def sBt : List Bool → Nat
  | [] => 0
  | b :: r => 2 * sBt r + sBb b
theorem sBb_rg (b : Bool) : sBb b ≤ 1 := by cases b <;> simp [sBb]
theorem sBt_lt : ∀ (l : List Bool) (n : Nat), l.length ≤ n → sBt l < 2 ^ n
  | [], n, _ => by rw [sBt]; exact Nat.pow_pos (by omega)
  | b :: r, 0, h => by simp at h
  | b :: r, n + 1, h => by
    have k := sBt_lt r n (by simp at h; omega)
    have := sBb_rg b
    rw [sBt, Nat.pow_succ]; omega
theorem sBt_20 {l : List Bool} (h : l.length ≤ 20) : sBt l < 1048576 := sBt_lt l 20 h
/-- the machine's steps on the number -/
theorem sBt_push {l : List Bool} (b : Bool) (h : l.length ≤ 20) : sg_or (sg_shl (sBt l) 1) (sBb b) = sBt (b :: l) := by
  have k := sBt_20 h
  rw [sg_shl1 (by omega)]
  have hb : (2 * sBt l ||| sBb b) = sBt (b :: l) := by
    rw [sBt]
    cases b
    · simp [sBb]
    · show 2 * sBt l ||| 1 = 2 * sBt l + 1
      rw [tq_or1]; omega
  have k2 := sBb_rg b
  exact sg_orN (by omega) (by omega) hb (by rw [sBt]; omega)
theorem sBt_not {l : List Bool} (b : Bool) (h : (b :: l).length ≤ 20) : sg_xor (sBt (b :: l)) 1 = sBt ((!b) :: l) := by
  have k := sBt_20 h
  have k2 := sBt_20 (l := l) (by simp at h; omega)
  have e : sBt (b :: l) ^^^ 1 = sBt ((!b) :: l) := by
    rw [tq_xor1, sBt, sBt]
    cases b <;> simp [sBb] <;> omega
  exact sg_xorN (m := 1) (by omega) (by omega) e (by rw [sBt]; have := sBb_rg (!b); omega)
theorem sBt_and {l : List Bool} (a b : Bool) (h : (b :: a :: l).length ≤ 20) : sg_and (sg_ushr (sBt (b :: a :: l)) 1) (sg_or (sg_and (sBt (b :: a :: l)) 1) (-2)) = sBt ((a && b) :: l) := by
  have k := sBt_20 h
  have k2 := sBt_20 (l := a :: l) (by simp at h ⊢; omega)
  rw [sg_ushr1 (by omega), sg_and1 (by omega)]
  have e1 : sBt (b :: a :: l) / 2 = sBt (a :: l) := by rw [sBt]; have := sBb_rg b; omega
  have e2 : sBt (b :: a :: l) % 2 = sBb b := by rw [sBt]; have := sBb_rg b; omega
  rw [e1, e2]
  cases b
  · show sg_and (sBt (a :: l) : Int) (sg_or 0 (-2)) = _
    rw [sg_andF (by omega), sBt, sBt]
    have := sBb_rg a
    congr 1
    cases a <;> simp [sBb] <;> omega
  · show sg_and (sBt (a :: l) : Int) (sg_or 1 (-2)) = _
    rw [sg_andT (by omega)]
    cases a <;> rfl
theorem sBt_or {l : List Bool} (a b : Bool) (h : (b :: a :: l).length ≤ 20) : sg_or (sg_ushr (sBt (b :: a :: l)) 1) (sg_and (sBt (b :: a :: l)) 1) = sBt ((a || b) :: l) := by
  have k := sBt_20 h
  have k2 := sBt_20 (l := a :: l) (by simp at h ⊢; omega)
  rw [sg_ushr1 (by omega), sg_and1 (by omega)]
  have e1 : sBt (b :: a :: l) / 2 = sBt (a :: l) := by rw [sBt]; have := sBb_rg b; omega
  have e2 : sBt (b :: a :: l) % 2 = sBb b := by rw [sBt]; have := sBb_rg b; omega
  rw [e1, e2]
  have e3 : sBt (a :: l) ||| sBb b = sBt ((a || b) :: l) := by
    cases b
    · cases a <;> simp [sBb]
    · show sBt (a :: l) ||| 1 = _
      rw [tq_or1, sBt, sBt]
      cases a <;> simp [sBb] <;> omega
  have := sBb_rg b
  exact sg_orN (by omega) (by omega) e3 (by rw [sBt]; have := sBb_rg (a || b); rw [sBt] at k2; omega)
end SGBi
