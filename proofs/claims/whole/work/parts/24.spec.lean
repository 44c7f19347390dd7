/-! WHAT THE ACTS DO, in numbers -/
def sp_gone (N : Nat → Nat) (p : Nat) : Nat → Nat := if clr (N 14) p = 0 then gu (gu N 14 (clr (N 14) p)) 13 0 else gu N 14 (clr (N 14) p)
def sp_gets (N : Nat → Nat) (b m : Nat) : Nat → Nat := gu N (6 + b) (min 999 (N (6 + b) + m))
def sp_enter (N : Nat → Nat) (b k s tl : Nat) : Nat → Nat := gu (gu (gu (gu (gu (gu N (15 + 4 * N 13) b) (16 + 4 * N 13) k) (17 + 4 * N 13) s) (18 + 4 * N 13) tl) 14 (N 14 ||| 2 ^ N 13)) 13 (N 13 + 1)
def sp_buy (N : Nat → Nat) (b k c t : Nat) : Nat × (Nat → Nat) :=
  if (N 12).testBit k then (1, N) else if N 13 = 12 then (2, N) else if N (6 + b) < prc (10 * c) (N k) t then (3, N) else if 99 < N 11 + t - 1 then (7, N)
  else (0, sp_enter (gu (gu N (6 + b) (N (6 + b) - prc (10 * c) (N k) t)) 10 (min 9999 (N 10 + prc (10 * c) (N k) t))) b k (10 * c) (N 11 + t - 1))
def sp_pass (N : Nat → Nat) (b p q : Nat) : Nat × (Nat → Nat) :=
  if N (6 + q) < 1 then (3, N) else if (N 14).testBit p = false ∨ N (15 + 4 * p) ≠ b then (4, N) else if b = q then (5, N)
  else (0, gu (sp_gets (gu N (6 + q) (N (6 + q) - 1)) b 1) (15 + 4 * p) q)
def sp_walk (N : Nat → Nat) (k : Nat) : Nat × (Nat → Nat) := if (N 12).testBit k then (1, N) else if N k = 0 then (6, N) else (0, gu N k (N k - 1))
def sp_rum (N : Nat → Nat) (k : Nat) : Nat × (Nat → Nat) := if (N 12).testBit k then (1, N) else if 9 ≤ N k then (6, N) else (0, gu N k (N k + 1))
/-- one policy when the life k has ended -/
def sp_pay (N : Nat → Nat) (k p : Nat) : Nat → Nat := if (N 14).testBit p ∧ N (16 + 4 * p) = k then sp_gone (gu (sp_gets N (N (15 + 4 * p)) (min (N (17 + 4 * p)) (N 10))) 10 (N 10 - min (N (17 + 4 * p)) (N 10))) p else N
/-- the policies 0 to n - 1 -/
def sp_pays (N : Nat → Nat) (k : Nat) : Nat → (Nat → Nat)
  | 0 => N
  | n + 1 => sp_pay (sp_pays N k n) k n
def sp_end (N : Nat → Nat) (k : Nat) : Nat → Nat := sp_pays (gu N 12 (N 12 ||| 2 ^ k)) k 12
def sp_over (N : Nat → Nat) (p : Nat) : Nat → Nat := if (N 14).testBit p ∧ N (18 + 4 * p) ≤ N 11 then sp_gone N p else N
def sp_overs (N : Nat → Nat) : Nat → (Nat → Nat)
  | 0 => N
  | n + 1 => sp_over (sp_overs N n) n
def sp_month (N : Nat → Nat) : Nat × (Nat → Nat) := if 99 ≤ N 11 then (7, N) else (0, gu (sp_overs N 12) 11 (N 11 + 1))
/-- what always holds of a book -/
def inv (N : Nat → Nat) : Prop :=
  (∀ i, i < 6 → N i ≤ 9) ∧ (∀ i, i < 4 → N (6 + i) ≤ 999) ∧ N 10 ≤ 9999 ∧ N 11 ≤ 99 ∧ N 12 < 64 ∧ N 13 ≤ 12 ∧ N 14 < 4096 ∧
  (∀ p, p < 12 → N (15 + 4 * p) ≤ 3 ∧ N (16 + 4 * p) ≤ 5 ∧ (∃ c, c ≤ 9 ∧ N (17 + 4 * p) = 10 * c) ∧ N (18 + 4 * p) ≤ 99) ∧
  (∀ p, p < 12 → (N 14).testBit p = true → p < N 13 ∧ N 11 ≤ N (18 + 4 * p))
