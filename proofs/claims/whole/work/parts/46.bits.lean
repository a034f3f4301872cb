/-! bits -/
theorem ofn_and {a b : Nat} (ha : a < 2 ^ 31) (hb : b < 2 ^ 31) : nI a &&& nI b = nI (a &&& b) := by
  apply Int32.toBitVec_inj.mp
  apply BitVec.eq_of_toNat_eq
  rw [Int32.toBitVec_and, BitVec.toNat_and, pk_tn (by omega), pk_tn (by omega), pk_tn (Nat.lt_of_le_of_lt Nat.and_le_left (by omega))]
theorem ofn_or {a b : Nat} (ha : a < 2 ^ 31) (hb : b < 2 ^ 31) : nI a ||| nI b = nI (a ||| b) := by
  apply Int32.toBitVec_inj.mp
  apply BitVec.eq_of_toNat_eq
  have := Nat.or_lt_two_pow ha hb
  rw [Int32.toBitVec_or, BitVec.toNat_or, pk_tn (by omega), pk_tn (by omega), pk_tn (by omega)]
theorem ofn_xor {a b : Nat} (ha : a < 2 ^ 31) (hb : b < 2 ^ 31) : nI a ^^^ nI b = nI (a ^^^ b) := by
  apply Int32.toBitVec_inj.mp
  apply BitVec.eq_of_toNat_eq
  have := Nat.xor_lt_two_pow ha hb
  rw [Int32.toBitVec_xor, BitVec.toNat_xor, pk_tn (by omega), pk_tn (by omega), pk_tn (by omega)]
/-- what is in c and not in g -/
def nand (c g : Nat) : Nat := c ^^^ (c &&& g)
theorem nand_le {c g : Nat} : nand c g ≤ c := by
  apply Nat.le_of_testBit
  intro i
  unfold nand
  rw [Nat.testBit_xor, Nat.testBit_and]
  cases c.testBit i <;> cases g.testBit i <;> decide
theorem nand_bit (c g k : Nat) : (nand c g).testBit k = (c.testBit k && !g.testBit k) := by
  unfold nand
  rw [Nat.testBit_xor, Nat.testBit_and]
  cases c.testBit k <;> cases g.testBit k <;> rfl
theorem ofn_nand {c g : Nat} (hc : c < 2 ^ 31) (hg : g < 2 ^ 31) : nI c &&& (nI g ^^^ (-1 : Int32)) = nI (nand c g) := by
  unfold nand
  rw [← ofn_xor hc (Nat.lt_of_le_of_lt Nat.and_le_left hc), ← ofn_and hc hg]
  apply Int32.toBitVec_inj.mp
  simp only [Int32.toBitVec_and, Int32.toBitVec_xor]
  have : ∀ x y : BitVec 32, x &&& (y ^^^ (-1 : Int32).toBitVec) = x ^^^ (x &&& y) := by
    intro x y
    have e : (-1 : Int32).toBitVec = BitVec.allOnes 32 := by decide
    rw [e, BitVec.xor_allOnes]
    apply BitVec.eq_of_getLsbD_eq
    intro i hi
    simp only [BitVec.getLsbD_and, BitVec.getLsbD_xor, BitVec.getLsbD_not, hi, decide_true, Bool.true_and]
    cases x.getLsbD i <;> cases y.getLsbD i <;> rfl
  exact this _ _
theorem sm31 : ∀ k : Nat, k < 31 → ((nI k &&& 31).toBitVec.smod 32).toNat = k := by decide +kernel
theorem shl31 : ∀ k : Nat, k < 31 → (1 : Int32) <<< (nI k &&& 31) = nI (2 ^ k) := by decide +kernel
theorem bit_e {a k : Nat} (ha : a < 2 ^ 31) (hk : k < 31) : ((nI a >>> (nI k &&& 31)) &&& (1 : Int32)) = nI (a / 2 ^ k % 2) := by
  rw [pk_shrN ha _ k (sm31 k hk), pk_andN (Nat.lt_of_le_of_lt (Nat.div_le_self _ _) (by omega)) 1 (by decide)]
theorem nb2 (a k : Nat) : a / 2 ^ k % 2 = (a.testBit k).toNat := by
  rw [Nat.testBit_eq_decide_div_mod_eq]
  by_cases c : a / 2 ^ k % 2 = 1
  · rw [decide_eq_true c, c]; rfl
  · rw [decide_eq_false c]
    have : a / 2 ^ k % 2 = 0 := by omega
    rw [this]; rfl
/-- a bit as a number -/
def b01 (b : Bool) : Int32 := if b then 1 else 0
theorem bit_b {a k : Nat} (ha : a < 2 ^ 31) (hk : k < 31) : ((nI a >>> (nI k &&& 31)) &&& (1 : Int32)) = b01 (a.testBit k) := by
  rw [bit_e ha hk, nb2]
  cases a.testBit k <;> rfl
theorem b01_1 (b : Bool) : (b01 b = 1) ↔ b = true := by cases b <;> decide
theorem b01_0 (b : Bool) : (b01 b = 0) ↔ b = false := by cases b <;> decide
theorem or_pow {a k : Nat} (ha : a < 2 ^ k) (hk : k < 31) : nI a ||| ((1 : Int32) <<< (nI k &&& 31)) = nI (a + 2 ^ k) := by
  have h2 : 2 ^ k < 2 ^ 31 := Nat.pow_lt_pow_right (by decide) hk
  rw [shl31 k hk, ofn_or (by omega) h2]
  have e := Nat.two_pow_add_eq_or_of_lt ha 1
  rw [Nat.mul_one] at e
  rw [Nat.or_comm, ← e, Nat.add_comm]
theorem testBit_add_pow {a k j : Nat} (ha : a < 2 ^ k) : (a + 2 ^ k).testBit j = (a.testBit j || decide (j = k)) := by
  have e := Nat.two_pow_add_eq_or_of_lt ha 1
  rw [Nat.mul_one] at e
  rw [Nat.add_comm, e, Nat.testBit_or, Nat.testBit_two_pow]
  cases a.testBit j
  · simp [eq_comm]
  · simp
