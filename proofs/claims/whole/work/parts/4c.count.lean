/-! HOW MANY BITS A LONG HAS -/
def rep (c : Nat) : Nat → Nat
  | 0 => 0
  | n + 1 => c + 256 * rep c n
theorem and_by {a c y m : Nat} (ha : a < 256) (hc : c < 256) : (a + 256 * y) &&& (c + 256 * m) = (a &&& c) + 256 * (y &&& m) := by
  have h1 : ((a + 256 * y) &&& (c + 256 * m)) % 2 ^ 8 = a &&& c := by
    rw [Nat.and_mod_two_pow]
    congr 1 <;> omega
  have h2 : ((a + 256 * y) &&& (c + 256 * m)) / 2 ^ 8 = y &&& m := by
    rw [Nat.and_div_two_pow]
    congr 1 <;> omega
  have h3 := Nat.mod_add_div ((a + 256 * y) &&& (c + 256 * m)) (2 ^ 8)
  rw [h1, h2] at h3
  omega
def s1 (n x : Nat) : Nat := x - ((x / 2) &&& rep 85 n)
def s2 (n x : Nat) : Nat := (x &&& rep 51 n) + ((x / 4) &&& rep 51 n)
def s4 (n x : Nat) : Nat := (x + x / 16) &&& rep 15 n
def t1 (a : Nat) : Nat := a - ((a / 2) &&& 85)
def t2 (a : Nat) : Nat := (a &&& 51) + ((a / 4) &&& 51)
def t4 (a : Nat) : Nat := (a + a / 16) &&& 15
theorem b55 : ∀ a, a < 256 → ∀ e, e < 2 → (a / 2 + 128 * e) &&& 85 = a / 2 &&& 85 := by decide +kernel
theorem b33 : ∀ a, a < 256 → ∀ e, e < 4 → (a / 4 + 64 * e) &&& 51 = a / 4 &&& 51 := by decide +kernel
theorem b0f : ∀ a, a < 69 → ∀ e, e < 5 → (a + a / 16 + 16 * e) &&& 15 = (a + a / 16) &&& 15 := by decide +kernel
theorem t_ok : ∀ a, a < 256 → t1 a < 256 ∧ t2 (t1 a) < 69 ∧ t2 (t1 a) % 16 < 5 ∧ t4 (t2 (t1 a)) = bN a 0 + bN a 1 + bN a 2 + bN a 3 + bN a 4 + bN a 5 + bN a 6 + bN a 7 := by decide +kernel
theorem s1_by (n : Nat) {a y : Nat} (ha : a < 256) : s1 (n + 1) (a + 256 * y) = t1 a + 256 * s1 n y := by
  unfold s1 t1
  rw [show rep 85 (n + 1) = 85 + 256 * rep 85 n from rfl, show (a + 256 * y) / 2 = (a / 2 + 128 * (y % 2)) + 256 * (y / 2) by omega, and_by (by omega) (by decide), b55 a ha _ (by omega)]
  have h1 : a / 2 &&& 85 ≤ a / 2 := Nat.and_le_left
  have h2 : y / 2 &&& rep 85 n ≤ y / 2 := Nat.and_le_left
  omega
theorem s2_by (n : Nat) {a y : Nat} (ha : a < 256) : s2 (n + 1) (a + 256 * y) = t2 a + 256 * s2 n y := by
  unfold s2 t2
  rw [show rep 51 (n + 1) = 51 + 256 * rep 51 n from rfl, show (a + 256 * y) / 4 = (a / 4 + 64 * (y % 4)) + 256 * (y / 4) by omega, and_by (a := a) ha (by decide), and_by (a := a / 4 + 64 * (y % 4)) (by omega) (by decide), b33 a ha _ (by omega)]
  omega
theorem s4_by (n : Nat) {a y : Nat} (ha : a < 69) (hy : y % 16 < 5) : s4 (n + 1) (a + 256 * y) = t4 a + 256 * s4 n y := by
  unfold s4 t4
  rw [show rep 15 (n + 1) = 15 + 256 * rep 15 n from rfl, show a + 256 * y + (a + 256 * y) / 16 = (a + a / 16 + 16 * (y % 16)) + 256 * (y + y / 16) by omega, and_by (by omega) (by decide), b0f a ha _ hy]
def bc : Nat → Nat → Nat
  | 0, _ => 0
  | n + 1, x => (bN (x % 256) 0 + bN (x % 256) 1 + bN (x % 256) 2 + bN (x % 256) 3 + bN (x % 256) 4 + bN (x % 256) 5 + bN (x % 256) 6 + bN (x % 256) 7) + 256 * bc n (x / 256)
theorem bc_eq : ∀ n x, s4 n (s2 n (s1 n x)) = bc n x ∧ (s2 n (s1 n x)) % 16 < 5 := by
  intro n
  induction n with
  | zero => intro x; unfold s4 s2 rep; simp [bc]
  | succ n ih =>
    intro x
    have hx : x = x % 256 + 256 * (x / 256) := by omega
    obtain ⟨k1, k2, k3, k4⟩ := t_ok (x % 256) (by omega)
    obtain ⟨i1, i2⟩ := ih (x / 256)
    have e1 : s1 (n + 1) x = t1 (x % 256) + 256 * s1 n (x / 256) := by
      conv => lhs; rw [hx]
      exact s1_by n (by omega)
    rw [e1, s2_by n k1, s4_by n k2 i2, i1, k4]
    exact ⟨rfl, by omega⟩
