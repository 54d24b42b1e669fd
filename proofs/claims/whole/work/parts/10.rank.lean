/-! counting over the first numbers; the rank -/
def ps_cn (P : Nat → Bool) (n : Nat) : Nat := (List.range n).countP P
theorem ps_cn0 (P : Nat → Bool) : ps_cn P 0 = 0 := rfl
theorem ps_cnS (P : Nat → Bool) (n : Nat) : ps_cn P (n + 1) = ps_cn P n + (if P n = true then 1 else 0) := by
  unfold ps_cn
  rw [List.range_succ, List.countP_append]
  simp [List.countP_cons]
theorem ps_cnT {P : Nat → Bool} {n : Nat} (h : P n = true) : ps_cn P (n + 1) = ps_cn P n + 1 := by rw [ps_cnS, if_pos h]
theorem ps_cnF {P : Nat → Bool} {n : Nat} (h : P n = false) : ps_cn P (n + 1) = ps_cn P n := by rw [ps_cnS, h]; rfl
theorem ps_cn_le (P : Nat → Bool) (n : Nat) : ps_cn P n ≤ n := by
  have := List.countP_le_length (p := P) (l := List.range n)
  simpa [ps_cn] using this
theorem ps_cn_congr {P Q : Nat → Bool} {n : Nat} (h : ∀ k, k < n → P k = Q k) : ps_cn P n = ps_cn Q n := by
  unfold ps_cn
  exact List.countP_congr (fun x hx => by rw [h x (List.mem_range.mp hx)])
/-- one round of the rank, as the bytecode has it -/
def ps_h1 (h : Int32) : Int32 := (h * (-1640531535)) ^^^ ((h * (-1640531535)).toUInt32 >>> ((16 : Int32).toUInt32 &&& Int32.toUInt32 31)).toInt32
def ps_hs (v : Int32) : Int32 := ps_h1 (ps_h1 (ps_h1 v))
def ps_rk (v : Int32) : Nat := (ps_hs v).toBitVec.toNat
theorem ps_xx {n : Nat} (h : n < 2 ^ 32) : (n ^^^ (n / 2 ^ 16)) ^^^ ((n ^^^ (n / 2 ^ 16)) / 2 ^ 16) = n := by
  have e : ∀ m : Nat, m / 2 ^ 16 = m >>> 16 := fun m => (Nat.shiftRight_eq_div_pow m 16).symm
  rw [e, e, Nat.shiftRight_xor_distrib, ← Nat.shiftRight_add]
  have h0 : n >>> (16 + 16) = 0 := by
    rw [Nat.shiftRight_eq_div_pow]
    exact Nat.div_eq_of_lt (by simpa using h)
  rw [h0, Nat.xor_zero, Nat.xor_assoc, Nat.xor_self, Nat.xor_zero]
theorem ps_x1 (x : Int32) : (x ^^^ (x.toUInt32 >>> ((16 : Int32).toUInt32 &&& Int32.toUInt32 31)).toInt32).toBitVec.toNat = x.toBitVec.toNat ^^^ (x.toBitVec.toNat / 2 ^ 16) := by
  rw [Int32.toBitVec_xor, BitVec.toNat_xor, pk_ushr x 16 16 (by decide)]
theorem ps_i32_ext {x y : Int32} (h : x.toBitVec.toNat = y.toBitVec.toNat) : x = y := Int32.toBitVec_inj.mp (BitVec.eq_of_toNat_eq h)
theorem ps_h1_inj {a b : Int32} (h : ps_h1 a = ps_h1 b) : a = b := by
  have h1 := congrArg (fun z : Int32 => z.toBitVec.toNat) h
  simp only [ps_h1, ps_x1] at h1
  have e : (a * (-1640531535)).toBitVec.toNat = (b * (-1640531535)).toBitVec.toNat := by
    rw [← ps_xx (n := (a * (-1640531535)).toBitVec.toNat) (BitVec.isLt _), ← ps_xx (n := (b * (-1640531535)).toBitVec.toNat) (BitVec.isLt _), h1]
  have e2 : a * (-1640531535) = b * (-1640531535) := ps_i32_ext e
  have e3 : a * (-1640531535) * 244002641 = b * (-1640531535) * 244002641 := by rw [e2]
  rw [Int32.mul_assoc, Int32.mul_assoc] at e3
  have e4 : (-1640531535 : Int32) * 244002641 = 1 := by decide
  rw [e4, Int32.mul_one, Int32.mul_one] at e3
  exact e3
theorem ps_rk_inj {a b : Int32} (h : ps_rk a = ps_rk b) : a = b := ps_h1_inj (ps_h1_inj (ps_h1_inj (ps_i32_ext h)))
theorem ps_rk_lt (a : Int32) : ps_rk a < 2 ^ 32 := BitVec.isLt _
theorem ps_i64_ext {x y : Int64} (h : x.toBitVec = y.toBitVec) : x = y := Int64.toBitVec_inj.mp h
/-- the class's way to read an int without a sign -/
theorem ps_mask (h : Int32) : h.toInt64 &&& 4294967295 = lN h.toBitVec.toNat := by
  apply ps_i64_ext
  apply BitVec.eq_of_toNat_eq
  have e1 : (h.toInt64 &&& 4294967295).toBitVec = (h.toBitVec.signExtend 64) &&& 4294967295#64 := by
    rw [Int64.toBitVec_and]; rfl
  have e2 : (lN h.toBitVec.toNat).toBitVec = BitVec.ofNat 64 h.toBitVec.toNat := rfl
  rw [e1, e2, BitVec.toNat_and]
  have hl := h.toBitVec.isLt
  have e3 : (4294967295#64).toNat = 2 ^ 32 - 1 := by decide
  rw [e3, Nat.and_two_pow_sub_one_eq_mod, BitVec.toNat_signExtend, BitVec.toNat_ofNat]
  have hs : (BitVec.setWidth 64 h.toBitVec).toNat = h.toBitVec.toNat := by
    rw [BitVec.toNat_setWidth]; omega
  rw [hs]
  split <;> omega
/-- the reference's way -/
theorem ps_wide (h : Int32) : h.toInt64 = Int64.ofInt h.toInt := by
  apply ps_i64_ext
  show h.toBitVec.signExtend 64 = BitVec.ofInt 64 h.toBitVec.toInt
  rfl
theorem ps_lN (n : Nat) : lN n = Int64.ofInt (n : Int) := by
  apply ps_i64_ext
  show BitVec.ofNat 64 n = BitVec.ofInt 64 (n : Int)
  simp
theorem ps_pos {h : Int32} (hp : ¬ h < 0) : h.toInt64 = lN h.toBitVec.toNat := by
  rw [ps_wide, ps_lN]
  have h0 : (0 : Int) ≤ h.toInt := by
    have := Int32.not_lt.mp hp
    simpa using Int32.le_iff_toInt_le.mp this
  have e : h.toInt = (h.toBitVec.toNat : Int) := by
    have h1 : h.toInt = h.toBitVec.toInt := rfl
    rw [h1] at h0 ⊢
    rw [BitVec.toInt_eq_toNat_cond] at h0 ⊢
    split at h0 <;> split <;> omega
  rw [e]
theorem ps_neg {h : Int32} (hp : h < 0) : h.toInt64 + 4294967296 = lN h.toBitVec.toNat := by
  rw [ps_wide, ps_lN]
  have h0 : h.toInt < (0 : Int) := by
    simpa using Int32.lt_iff_toInt_lt.mp hp
  have e : h.toInt + 4294967296 = (h.toBitVec.toNat : Int) := by
    have h1 : h.toInt = h.toBitVec.toInt := rfl
    rw [h1] at h0 ⊢
    rw [BitVec.toInt_eq_toNat_cond] at h0 ⊢
    split at h0 <;> split <;> omega
  rw [← e, Int64.ofInt_add]
  rfl
