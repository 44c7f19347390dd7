/-! LIARS -/
def fI (b : Bool) : Nat := if b then 1 else 0
def cntW (f : Nat → Bool) : Nat → Nat
  | 0 => 0
  | n + 1 => cntW f n + fI (f n)
theorem bN_by {M i : Nat} (hi : i < 8) : bN (M % 256) i = bN M i := by
  unfold bN
  rw [show (256 : Nat) = 2 ^ 8 from rfl, Nat.testBit_mod_two_pow, decide_eq_true hi, Bool.true_and]
theorem bN_dv (M i : Nat) : bN (M / 256) i = bN M (i + 8) := by
  unfold bN
  rw [show (256 : Nat) = 2 ^ 8 from rfl, Nat.testBit_div_two_pow]
theorem bN_mk (f : Nat → Bool) {i : Nat} (hi : i < 49) : bN (mk f 49) i = fI (f i) := by
  unfold bN fI
  rw [mk_bit, decide_eq_true hi, Bool.true_and]
theorem bN_hi (f : Nat → Bool) {i : Nat} (hi : 49 ≤ i) : bN (mk f 49) i = 0 := by
  unfold bN
  rw [mk_bit, decide_eq_false (by omega), Bool.false_and]
  rfl
theorem pb_eq (M : Nat) : pb (M % 256) = bN M 0 + bN M 1 + bN M 2 + bN M 3 + bN M 4 + bN M 5 + bN M 6 + bN M 7 := by
  unfold pb
  rw [bN_by (by decide), bN_by (by decide), bN_by (by decide), bN_by (by decide), bN_by (by decide), bN_by (by decide), bN_by (by decide), bN_by (by decide)]
def c8 (f : Nat → Bool) (j : Nat) : Nat := fI (f j) + fI (f (j + 1)) + fI (f (j + 2)) + fI (f (j + 3)) + fI (f (j + 4)) + fI (f (j + 5)) + fI (f (j + 6)) + fI (f (j + 7))
theorem cnt_mk (f : Nat → Bool) : f_J13_bitCount_95d88 (lN (mk f 49)) = some (nI (cntW f 49)) := by
  rw [cnt_eq (mk_lt f 49)]
  congr 2
  rw [pb_eq, pb_eq, pb_eq, pb_eq, pb_eq, pb_eq, pb_eq]
  simp only [bN_dv]
  have h0 : cntW f 49 = c8 f 0 + c8 f 8 + c8 f 16 + c8 f 24 + c8 f 32 + c8 f 40 + fI (f 48) := by
    simp only [cntW, c8, Nat.reduceAdd]
    omega
  rw [h0]
  unfold c8
  simp only [Nat.reduceAdd, Nat.zero_add, bN_hi f (show 49 ≤ 49 by decide), bN_hi f (show 49 ≤ 50 by decide), bN_hi f (show 49 ≤ 51 by decide), bN_hi f (show 49 ≤ 52 by decide), bN_hi f (show 49 ≤ 53 by decide), bN_hi f (show 49 ≤ 54 by decide), bN_hi f (show 49 ≤ 55 by decide)]
  simp only [bN_mk f (show 0 < 49 by decide), bN_mk f (show 1 < 49 by decide), bN_mk f (show 2 < 49 by decide), bN_mk f (show 3 < 49 by decide), bN_mk f (show 4 < 49 by decide), bN_mk f (show 5 < 49 by decide), bN_mk f (show 6 < 49 by decide), bN_mk f (show 7 < 49 by decide), bN_mk f (show 8 < 49 by decide), bN_mk f (show 9 < 49 by decide), bN_mk f (show 10 < 49 by decide), bN_mk f (show 11 < 49 by decide), bN_mk f (show 12 < 49 by decide), bN_mk f (show 13 < 49 by decide), bN_mk f (show 14 < 49 by decide), bN_mk f (show 15 < 49 by decide), bN_mk f (show 16 < 49 by decide), bN_mk f (show 17 < 49 by decide), bN_mk f (show 18 < 49 by decide), bN_mk f (show 19 < 49 by decide), bN_mk f (show 20 < 49 by decide), bN_mk f (show 21 < 49 by decide), bN_mk f (show 22 < 49 by decide), bN_mk f (show 23 < 49 by decide), bN_mk f (show 24 < 49 by decide), bN_mk f (show 25 < 49 by decide), bN_mk f (show 26 < 49 by decide), bN_mk f (show 27 < 49 by decide), bN_mk f (show 28 < 49 by decide), bN_mk f (show 29 < 49 by decide), bN_mk f (show 30 < 49 by decide), bN_mk f (show 31 < 49 by decide), bN_mk f (show 32 < 49 by decide), bN_mk f (show 33 < 49 by decide), bN_mk f (show 34 < 49 by decide), bN_mk f (show 35 < 49 by decide), bN_mk f (show 36 < 49 by decide), bN_mk f (show 37 < 49 by decide), bN_mk f (show 38 < 49 by decide), bN_mk f (show 39 < 49 by decide), bN_mk f (show 40 < 49 by decide), bN_mk f (show 41 < 49 by decide), bN_mk f (show 42 < 49 by decide), bN_mk f (show 43 < 49 by decide), bN_mk f (show 44 < 49 by decide), bN_mk f (show 45 < 49 by decide), bN_mk f (show 46 < 49 by decide), bN_mk f (show 47 < 49 by decide), bN_mk f (show 48 < 49 by decide)]
  omega
