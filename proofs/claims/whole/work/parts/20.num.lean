/-! NUMBERS: masks, digits, powers as natural numbers -/
theorem n_lit (n : Nat) : (OfNat.ofNat n : Int32) = nI n := rfl
theorem n_litL (n : Nat) : (OfNat.ofNat n : Int64) = lN n := rfl
theorem n_or (a b : Nat) : nI a ||| nI b = nI (a ||| b) := by
  apply Int32.toBitVec_inj.1
  show BitVec.ofNat 32 a ||| BitVec.ofNat 32 b = BitVec.ofNat 32 (a ||| b)
  apply BitVec.eq_of_getLsbD_eq
  intro i hi
  simp [hi]
theorem n_and (a b : Nat) : nI a &&& nI b = nI (a &&& b) := by
  apply Int32.toBitVec_inj.1
  show BitVec.ofNat 32 a &&& BitVec.ofNat 32 b = BitVec.ofNat 32 (a &&& b)
  apply BitVec.eq_of_getLsbD_eq
  intro i hi
  simp [hi]
theorem n_sl : ∀ n, n < 32 → ((nI n &&& 31).toBitVec.smod 32).toNat = n := by decide +kernel
theorem n_one : ∀ p, p < 31 → (1 : Int32) <<< (nI p &&& 31) = nI (2 ^ p) := by decide +kernel
theorem n_shr {a p : Nat} (ha : a < 2 ^ 31) (hp : p < 32) : nI a >>> (nI p &&& 31) = nI (a / 2 ^ p) := pk_shrN ha _ p (n_sl p hp)
/-- the bit p, as 0 or 1 -/
def bN (a p : Nat) : Nat := if a.testBit p then 1 else 0
theorem bN_le (a p : Nat) : bN a p ≤ 1 := by unfold bN; split <;> omega
theorem n_bit {a p : Nat} (ha : a < 2 ^ 31) (hp : p < 32) : (nI a >>> (nI p &&& 31)) &&& 1 = nI (bN a p) := by
  rw [n_shr ha hp]
  show nI (a / 2 ^ p) &&& nI 1 = _
  rw [n_and, Nat.and_one_is_mod]
  unfold bN
  rw [Nat.testBit_eq_decide_div_mod_eq]
  have h := Nat.mod_two_eq_zero_or_one (a / 2 ^ p)
  rcases h with h | h <;> simp [h]
theorem bN_0 {a p : Nat} : nI (bN a p) = 0 ↔ a.testBit p = false := by
  unfold bN
  cases a.testBit p <;> simp <;> decide
theorem bN_1 {a p : Nat} : nI (bN a p) = 1 ↔ a.testBit p = true := by
  unfold bN
  cases a.testBit p <;> simp <;> decide
/-- the bit p taken away -/
def clr (a p : Nat) : Nat := a &&& (a ^^^ 2 ^ p)
theorem clr_testBit (a p j : Nat) : (clr a p).testBit j = (a.testBit j && decide (j ≠ p)) := by
  unfold clr
  rw [Nat.testBit_and, Nat.testBit_xor, Nat.testBit_two_pow]
  by_cases h : p = j
  · subst h; cases a.testBit p <;> simp
  · cases a.testBit j <;> simp [h, Ne.symm h]
theorem clr_le (a p : Nat) : clr a p ≤ a := Nat.and_le_left
theorem n_clr {a p : Nat} (hp : p < 31) : nI a &&& (((1 : Int32) <<< (nI p &&& 31)) ^^^ (-1)) = nI (clr a p) := by
  rw [n_one p hp]
  apply Int32.toBitVec_inj.1
  rw [Int32.toBitVec_and, Int32.toBitVec_xor, show (-1 : Int32).toBitVec = BitVec.allOnes 32 from by decide +kernel]
  show BitVec.ofNat 32 a &&& (BitVec.ofNat 32 (2 ^ p) ^^^ BitVec.allOnes 32) = BitVec.ofNat 32 (clr a p)
  apply BitVec.eq_of_getLsbD_eq
  intro i hi
  simp only [BitVec.getLsbD_and, BitVec.getLsbD_xor, BitVec.getLsbD_ofNat, BitVec.getLsbD_allOnes, hi, decide_true, Bool.true_and, clr_testBit, Nat.testBit_two_pow]
  by_cases h : p = i
  · subst h; cases a.testBit p <;> simp
  · cases a.testBit i <;> simp [h, Ne.symm h]
theorem n_set {a p : Nat} (hp : p < 31) : nI a ||| ((1 : Int32) <<< (nI p &&& 31)) = nI (a ||| 2 ^ p) := by rw [n_one p hp, n_or]
/-! Int32 against numbers -/
theorem n_lt0 {a : Nat} (ha : a < 2 ^ 31) : ¬ nI a < 0 := nI_pos ha
theorem n_ne {a b : Nat} (ha : a < 2 ^ 31) (hb : b < 2 ^ 31) (h : a ≠ b) : ¬ nI a = nI b := fun z => h ((nI_eq ha hb).mp z)
theorem n_of_in {x : Int32} {n : Nat} (hn : n < 2 ^ 31) (h1 : ¬ x < 0) (h2 : ¬ nI n < x) : ∃ j : Nat, j ≤ n ∧ x = nI j := by
  obtain ⟨j, hj, rfl⟩ := nI_of h1
  rw [nI_ltI hn hj] at h2
  exact ⟨j, by omega, rfl⟩
theorem n_of_in2 {x : Int32} {l n : Nat} (hn : n < 2 ^ 31) (hl : l < 2 ^ 31) (h1 : ¬ x < nI l) (h2 : ¬ nI n < x) : ∃ j : Nat, l ≤ j ∧ j ≤ n ∧ x = nI j := by
  have h0 : ¬ x < 0 := by
    intro z
    apply h1
    rw [Int32.lt_iff_toInt_lt] at z ⊢
    rw [nI_toInt hl]
    simp at z
    omega
  obtain ⟨j, hj, rfl⟩ := nI_of h0
  rw [nI_ltI hn hj] at h2
  rw [nI_ltI hj hl] at h1
  exact ⟨j, by omega, by omega, rfl⟩
