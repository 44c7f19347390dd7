/-! RUIN, in numbers -/
/-- what is on a life, from the policies 0 to n - 1 -/
def al (N : Nat → Nat) (k n : Nat) : Nat := gnW N 0 k 99 0 n + gnW N 1 k 99 0 n + gnW N 2 k 99 0 n + gnW N 3 k 99 0 n
def pay (N : Nat → Nat) (S n : Nat) : Nat → Nat
  | 0 => 0
  | k + 1 => pay N S n k + if S.testBit k then al N k n else 0
theorem al_s {N : Nat → Nat} (I : inv N) (k : Nat) {n : Nat} (hn : n < 12) : al N k (n + 1) = al N k n + if (N 14).testBit n = true ∧ N (16 + 4 * n) = k then N (17 + 4 * n) else 0 := by
  have hb := (I.2.2.2.2.2.2.2.1 n hn).1
  unfold al
  have hs : ∀ b, gnW N b k 99 0 (n + 1) = gnW N b k 99 0 n + if (N 14).testBit n = true ∧ N (16 + 4 * n) = k ∧ N (15 + 4 * n) = b then N (17 + 4 * n) else 0 := by
    intro b
    show gnW N b k 99 0 n + _ = _
    rw [if_neg (show ¬ n = 99 by omega)]
  rw [hs, hs, hs, hs]
  by_cases c : (N 14).testBit n = true ∧ N (16 + 4 * n) = k
  · rw [if_pos c]
    rcases (show N (15 + 4 * n) = 0 ∨ N (15 + 4 * n) = 1 ∨ N (15 + 4 * n) = 2 ∨ N (15 + 4 * n) = 3 by omega) with e | e | e | e <;> simp [c, e] <;> omega
  · rw [if_neg c]
    have : ∀ b, ¬ ((N 14).testBit n = true ∧ N (16 + 4 * n) = k ∧ N (15 + 4 * n) = b) := fun b z => c ⟨z.1, z.2.1⟩
    rw [if_neg (this 0), if_neg (this 1), if_neg (this 2), if_neg (this 3)]
    omega
theorem pay_z (N : Nat → Nat) (S : Nat) : ∀ k, pay N S 0 k = 0 := by
  intro k
  induction k with
  | zero => rfl
  | succ k ih =>
    unfold pay
    rw [ih]
    split <;> rfl
theorem pay_s {N : Nat → Nat} (I : inv N) (S : Nat) {n : Nat} (hn : n < 12) : ∀ k, k ≤ 6 → pay N S (n + 1) k = pay N S n k + if (N 14).testBit n = true ∧ N (16 + 4 * n) < k ∧ S.testBit (N (16 + 4 * n)) = true then N (17 + 4 * n) else 0 := by
  intro k
  induction k with
  | zero => intro _; rw [if_neg (fun z => by omega)]; rfl
  | succ k ih =>
    intro hk
    unfold pay
    rw [ih (by omega), al_s I k hn]
    by_cases c1 : (N 14).testBit n = true
    · by_cases c2 : N (16 + 4 * n) = k
      · rw [if_neg (fun z => by omega), if_pos (c := (N 14).testBit n = true ∧ N (16 + 4 * n) = k) ⟨c1, c2⟩]
        by_cases c3 : S.testBit k = true
        · rw [if_pos c3, if_pos c3, if_pos ⟨c1, by omega, by rw [c2]; exact c3⟩]; omega
        · rw [if_neg c3, if_neg c3, if_neg (fun z => c3 (by rw [← c2]; exact z.2.2))]
      · rw [if_neg (c := (N 14).testBit n = true ∧ N (16 + 4 * n) = k) (fun z => c2 z.2), Nat.add_zero]
        by_cases c4 : (N 14).testBit n = true ∧ N (16 + 4 * n) < k ∧ S.testBit (N (16 + 4 * n)) = true
        · rw [if_pos c4, if_pos (c := (N 14).testBit n = true ∧ N (16 + 4 * n) < k + 1 ∧ S.testBit (N (16 + 4 * n)) = true) ⟨c4.1, by omega, c4.2.2⟩]; omega
        · rw [if_neg c4, if_neg (c := (N 14).testBit n = true ∧ N (16 + 4 * n) < k + 1 ∧ S.testBit (N (16 + 4 * n)) = true) (fun z => c4 ⟨z.1, by omega, z.2.2⟩)]; omega
    · rw [if_neg (c := (N 14).testBit n = true ∧ N (16 + 4 * n) < k ∧ S.testBit (N (16 + 4 * n)) = true) (fun z => c1 z.1), if_neg (c := (N 14).testBit n = true ∧ N (16 + 4 * n) = k) (fun z => c1 z.1), if_neg (c := (N 14).testBit n = true ∧ N (16 + 4 * n) < k + 1 ∧ S.testBit (N (16 + 4 * n)) = true) (fun z => c1 z.1)]
      rfl
theorem owe_pay {N : Nat → Nat} (I : inv N) (S : Nat) : ∀ n, n ≤ 12 → owe N S n = pay N S n 6 := by
  intro n
  induction n with
  | zero => intro _; rw [pay_z]; rfl
  | succ n ih =>
    intro hn
    have hl := (I.2.2.2.2.2.2.2.1 n (by omega)).2.1
    rw [pay_s I S (by omega) 6 (Nat.le_refl 6), ← ih (by omega)]
    show owe N S n + _ = owe N S n + _
    congr 1
    by_cases c : (N 14).testBit n = true ∧ S.testBit (N (16 + 4 * n)) = true
    · rw [if_pos c, if_pos ⟨c.1, by omega, c.2⟩]
    · rw [if_neg c, if_neg (fun z => c ⟨z.1, z.2.2⟩)]
theorem owe_al {N : Nat → Nat} (I : inv N) {k : Nat} (hk : k < 6) : owe N (2 ^ k) 12 = al N k 12 := by
  rw [owe_pay I (2 ^ k) 12 (Nat.le_refl _)]
  have : ∀ j, j ≤ 6 → pay N (2 ^ k) 12 j = if k < j then al N k 12 else 0 := by
    intro j
    induction j with
    | zero => intro _; rw [if_neg (by omega)]; rfl
    | succ j ih =>
      intro hj
      unfold pay
      rw [ih (by omega), Nat.testBit_two_pow]
      by_cases e : k = j
      · subst e; rw [if_neg (by omega), if_pos (decide_eq_true rfl), if_pos (by omega)]; omega
      · rw [if_neg (c := decide (k = j) = true) (by simp [e])]
        by_cases d : k < j
        · rw [if_pos d, if_pos (by omega)]; rfl
        · rw [if_neg d, if_neg (by omega)]
  rw [this 6 (Nat.le_refl _), if_pos hk]
theorem al_le {N : Nat → Nat} (I : inv N) (k : Nat) : ∀ n, n ≤ 12 → al N k n ≤ 90 * n := by
  intro n
  induction n with
  | zero => intro _; exact Nat.le_refl _
  | succ n ih =>
    intro hn
    have := ih (by omega)
    obtain ⟨c, h1, h2⟩ := (I.2.2.2.2.2.2.2.1 n (by omega)).2.2.1
    rw [al_s I k (by omega)]
    split <;> omega
/-! ways -/
def ee (N : Nat → Nat) (t k : Nat) : Nat := if (N 12).testBit k then 0 else en (N k) t
theorem ee_le (N : Nat → Nat) (t k : Nat) : ee N t k ≤ 10 ^ t := by
  unfold ee
  split
  · exact Nat.zero_le _
  · exact en_le _ _
def wf (N : Nat → Nat) (t S k : Nat) : Nat := if S.testBit k then ee N t k else 10 ^ t - ee N t k
def wy (N : Nat → Nat) (t S : Nat) : Nat → Nat
  | 0 => 1
  | n + 1 => wy N t S n * wf N t S n
/-- the ways of the sets 0 to m - 1 -/
def wsum (N : Nat → Nat) (t n : Nat) : Nat → Nat
  | 0 => 0
  | m + 1 => wsum N t n m + wy N t m n
theorem wy_lt {N : Nat → Nat} {t : Nat} {S S' : Nat} : ∀ n, (∀ k, k < n → S.testBit k = S'.testBit k) → wy N t S n = wy N t S' n := by
  intro n
  induction n with
  | zero => intro _; rfl
  | succ n ih =>
    intro h
    unfold wy wf
    rw [ih (fun k hk => h k (by omega)), h n (by omega)]
theorem wsum_hi (N : Nat → Nat) (t n : Nat) : ∀ m, m ≤ 2 ^ n → wsum N t (n + 1) m = wsum N t n m * (10 ^ t - ee N t n) := by
  intro m
  induction m with
  | zero => intro _; simp [wsum]
  | succ m ih =>
    intro hm
    unfold wsum
    rw [ih (by omega), Nat.add_mul]
    congr 1
    show wy N t m n * wf N t m n = _
    unfold wf
    rw [Nat.testBit_lt_two_pow (by omega)]
    rfl
theorem wsum_lo (N : Nat → Nat) (t n : Nat) : ∀ m, m ≤ 2 ^ n → wsum N t (n + 1) (2 ^ n + m) = wsum N t (n + 1) (2 ^ n) + wsum N t n m * ee N t n := by
  intro m
  induction m with
  | zero => intro _; simp [wsum]
  | succ m ih =>
    intro hm
    show wsum N t (n + 1) (2 ^ n + m) + wy N t (2 ^ n + m) (n + 1) = _
    rw [ih (by omega)]
    show _ = _ + (wsum N t n m + wy N t m n) * ee N t n
    rw [Nat.add_mul, Nat.add_assoc]
    congr 2
    show wy N t (2 ^ n + m) n * wf N t (2 ^ n + m) n = _
    have h1 : (2 ^ n + m).testBit n = true := by
      rw [Nat.testBit_two_pow_add_eq, Nat.testBit_lt_two_pow (by omega)]
      rfl
    rw [wy_lt (S' := m) n (fun k hk => by rw [Nat.testBit_two_pow_add_gt hk])]
    unfold wf
    rw [if_pos h1]
theorem wsum_eq (N : Nat → Nat) (t : Nat) : ∀ n, wsum N t n (2 ^ n) = (10 ^ t) ^ n := by
  intro n
  induction n with
  | zero => rfl
  | succ n ih =>
    rw [show 2 ^ (n + 1) = 2 ^ n + 2 ^ n by rw [Nat.pow_succ]; omega, wsum_lo N t n (2 ^ n) (Nat.le_refl _), wsum_hi N t n (2 ^ n) (Nat.le_refl _), ← Nat.mul_add, ih, Nat.sub_add_cancel (ee_le N t n), Nat.pow_succ]
/-- the ways to ruin of the sets 0 to m - 1 -/
def rsum (N : Nat → Nat) (t : Nat) : Nat → Nat
  | 0 => 0
  | m + 1 => rsum N t m + if owe N m 12 ≤ N 10 then 0 else wy N t m 6
theorem rsum_le (N : Nat → Nat) (t : Nat) : ∀ m, rsum N t m ≤ wsum N t 6 m := by
  intro m
  induction m with
  | zero => exact Nat.le_refl _
  | succ m ih =>
    unfold rsum wsum
    split <;> omega
theorem rsum_64 (N : Nat → Nat) {t : Nat} (ht : t ≤ 3) : rsum N t 64 ≤ 10 ^ 18 := by
  have h1 := rsum_le N t 64
  have h2 : wsum N t 6 64 = (10 ^ t) ^ 6 := wsum_eq N t 6
  rw [h2, ← Nat.pow_mul] at h1
  exact Nat.le_trans h1 (Nat.pow_le_pow_right (by omega) (by omega))
def msum (N : Nat → Nat) (t : Nat) : Nat → Nat
  | 0 => 0
  | k + 1 => msum N t k + al N k 12 * ee N t k
theorem msum_le {N : Nat → Nat} (I : inv N) {t : Nat} (ht : t ≤ 3) : ∀ k, k ≤ 6 → msum N t k ≤ 1080000 * k := by
  intro k
  induction k with
  | zero => intro _; exact Nat.le_refl _
  | succ k ih =>
    intro hk
    have h1 := ih (by omega)
    have h2 := al_le I k 12 (Nat.le_refl _)
    have h3 := ee_le N t k
    have h4 : 10 ^ t ≤ 10 ^ 3 := Nat.pow_le_pow_right (by omega) ht
    have h5 : al N k 12 * ee N t k ≤ 1080 * 1000 := Nat.mul_le_mul (by omega) (by omega)
    unfold msum
    omega
