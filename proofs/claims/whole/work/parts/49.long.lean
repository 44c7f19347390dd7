/-! MASKS OF WORLDS: longs as numbers -/
theorem l_or (a b : Nat) : lN a ||| lN b = lN (a ||| b) := by
  apply Int64.toBitVec_inj.1
  show BitVec.ofNat 64 a ||| BitVec.ofNat 64 b = BitVec.ofNat 64 (a ||| b)
  apply BitVec.eq_of_getLsbD_eq
  intro i hi
  simp [hi]
theorem l_and (a b : Nat) : lN a &&& lN b = lN (a &&& b) := by
  apply Int64.toBitVec_inj.1
  show BitVec.ofNat 64 a &&& BitVec.ofNat 64 b = BitVec.ofNat 64 (a &&& b)
  apply BitVec.eq_of_getLsbD_eq
  intro i hi
  simp [hi]
theorem l_ix : ∀ i, i < 49 → ((nI i).toInt64 &&& 63).toBitVec.smod 64 = BitVec.ofNat 64 i := by decide +kernel
theorem l_one : ∀ i, i < 49 → (1 : Int64) <<< ((nI i).toInt64 &&& 63) = lN (2 ^ i) := by decide +kernel
theorem l_shr {a i : Nat} (ha : a < 2 ^ 63) (hi : i < 49) : lN a >>> ((nI i).toInt64 &&& 63) = lN (a / 2 ^ i) := by
  apply Int64.toBitVec_inj.1
  rw [Int64.toBitVec_shiftRight, l_ix i hi]
  show (BitVec.ofNat 64 a).sshiftRight' (BitVec.ofNat 64 i) = BitVec.ofNat 64 (a / 2 ^ i)
  have hm : (BitVec.ofNat 64 a).msb = false := by
    rw [BitVec.msb_eq_decide, BitVec.toNat_ofNat, Nat.mod_eq_of_lt (by omega)]
    simp; omega
  rw [BitVec.sshiftRight_eq', BitVec.sshiftRight_eq_of_msb_false hm]
  apply BitVec.eq_of_toNat_eq
  rw [BitVec.toNat_ushiftRight, BitVec.toNat_ofNat, BitVec.toNat_ofNat, BitVec.toNat_ofNat, Nat.mod_eq_of_lt (by omega), Nat.mod_eq_of_lt (by omega), Nat.shiftRight_eq_div_pow, Nat.mod_eq_of_lt]
  exact Nat.lt_of_le_of_lt (Nat.div_le_self _ _) (by omega)
theorem l_bit {a i : Nat} (ha : a < 2 ^ 63) (hi : i < 49) : (lN a >>> ((nI i).toInt64 &&& 63)) &&& 1 = lN (bN a i) := by
  rw [l_shr ha hi]
  show lN (a / 2 ^ i) &&& lN 1 = _
  rw [l_and, Nat.and_one_is_mod]
  unfold bN
  rw [Nat.testBit_eq_decide_div_mod_eq]
  rcases Nat.mod_two_eq_zero_or_one (a / 2 ^ i) with h | h <;> simp [h]
theorem l_ifb {α : Type} {a i : Nat} (ha : a < 2 ^ 63) (hi : i < 49) (x y : α) : (if lg_cmp ((lN a >>> ((nI i).toInt64 &&& 63)) &&& 1) 0 = 0 then x else y) = if a.testBit i then y else x := by
  rw [l_bit ha hi]
  have := bN_le a i
  by_cases c : a.testBit i = true
  · rw [if_pos c, if_neg]
    rw [lgc_0 (by omega)]
    unfold bN
    rw [if_pos c]
    decide
  · rw [if_neg c, if_pos]
    rw [lgc_0 (by omega)]
    unfold bN
    rw [if_neg c]
theorem l_set {a i : Nat} (hi : i < 49) : lN a ||| ((1 : Int64) <<< ((nI i).toInt64 &&& 63)) = lN (a ||| 2 ^ i) := by rw [l_one i hi, l_or]
/-! worlds: 0 the book, 1 + 4 p + b the policy p being b's -/
def gw (N : Nat → Nat) (W b k : Nat) : Nat := if W = 0 then gnW N b k 99 0 12 else gnW N b k ((W - 1) / 4) ((W - 1) % 4) 12
def wd (N : Nat → Nat) (W : Nat) : Bool := decide (W = 0) || ((N 14).testBit ((W - 1) / 4) && decide (N (15 + 4 * ((W - 1) / 4)) ≠ (W - 1) % 4))
/-- the worlds by which the sights 0 to n - 1 are so -/
def fitW (N sg : Nat → Nat) (W : Nat) : Nat → Bool
  | 0 => wd N W
  | n + 1 => fitW N sg W n && decide (gw N W (sg (3 * n)) (sg (3 * n + 1)) = sg (3 * n + 2))
/-- what is gained when the policy p is w's -/
theorem gnW_eq (N : Nat → Nat) (b k p w : Nat) : ∀ n, p < 99 → gnW N b k p w n + (if p < n ∧ (N 14).testBit p = true ∧ N (16 + 4 * p) = k ∧ N (15 + 4 * p) = b then N (17 + 4 * p) else 0) = gnW N b k 99 0 n + (if p < n ∧ (N 14).testBit p = true ∧ N (16 + 4 * p) = k ∧ w = b then N (17 + 4 * p) else 0) ∨ 99 ≤ n := by
  intro n hp
  induction n with
  | zero => left; rw [if_neg (fun z => by omega), if_neg (fun z => by omega)]; rfl
  | succ n ih =>
    rcases ih with ih | ih
    · by_cases h99 : n = 99
      · right; omega
      left
      show gnW N b k p w n + (if (N 14).testBit n = true ∧ N (16 + 4 * n) = k ∧ (if n = p then w else N (15 + 4 * n)) = b then N (17 + 4 * n) else 0) + _ = gnW N b k 99 0 n + (if (N 14).testBit n = true ∧ N (16 + 4 * n) = k ∧ (if n = 99 then 0 else N (15 + 4 * n)) = b then N (17 + 4 * n) else 0) + _
      rw [if_neg h99]
      by_cases e : n = p
      · subst e
        rw [if_neg (fun z => by omega), if_neg (fun z => by omega)] at ih
        rw [if_pos rfl]
        have hn : n < n + 1 := by omega
        simp only [hn, true_and]
        omega
      · rw [if_neg e]
        by_cases l : p < n
        · have l1 : p < n + 1 := by omega
          simp only [l, l1, true_and] at ih ⊢
          omega
        · have l1 : ¬ p < n + 1 := by omega
          simp only [l, l1, false_and, if_false] at ih ⊢
          omega
    · right; omega
