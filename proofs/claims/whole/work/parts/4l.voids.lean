/-! VOIDS, 1: sets of policies as numbers -/
def mb (a p : Nat) : Prop := a.testBit p = true
theorem mb_or (a b p : Nat) : mb (a ||| b) p ↔ mb a p ∨ mb b p := by simp [mb, Nat.testBit_or]
theorem mb_and (a b p : Nat) : mb (a &&& b) p ↔ mb a p ∧ mb b p := by simp [mb, Nat.testBit_and]
theorem mb_ext {a b : Nat} (h : ∀ p, mb a p ↔ mb b p) : a = b := by
  apply Nat.eq_of_testBit_eq
  intro p
  have := h p
  unfold mb at this
  cases x : a.testBit p <;> cases y : b.testBit p <;> simp_all
theorem mb_0 (p : Nat) : ¬ mb 0 p := by simp [mb]
theorem mb_12 {a p : Nat} (ha : a < 4096) (h : mb a p) : p < 12 := by
  apply Classical.byContradiction
  intro z
  have : a < 2 ^ p := Nat.lt_of_lt_of_le ha (by rw [show 4096 = 2 ^ 12 from rfl]; exact Nat.pow_le_pow_right (by omega) (by omega))
  unfold mb at h
  rw [Nat.testBit_lt_two_pow this] at h
  cases h
/-- a without b -/
def dif (a b : Nat) : Nat := a ^^^ (a &&& b)
theorem mb_dif (a b p : Nat) : mb (dif a b) p ↔ mb a p ∧ ¬ mb b p := by
  unfold mb dif
  rw [Nat.testBit_xor, Nat.testBit_and]
  cases a.testBit p <;> cases b.testBit p <;> simp
/-- a is of G -/
def sb (a G : Nat) : Prop := ∀ p, mb a p → mb G p
theorem sb_and {a G : Nat} (h : sb a G) : a &&& G = a := mb_ext (fun p => by rw [mb_and]; exact ⟨fun z => z.1, fun z => ⟨z, h p z⟩⟩)
theorem or_add : ∀ n a b, a < 2 ^ n → b < 2 ^ n → a &&& b = 0 → a ||| b = a + b := by
  intro n
  induction n with
  | zero => intro a b ha hb _; rw [show a = 0 by omega, show b = 0 by omega]; rfl
  | succ n ih =>
    intro a b ha hb hz
    have h1 : (a ||| b) / 2 ^ 1 = a / 2 ^ 1 ||| b / 2 ^ 1 := Nat.or_div_two_pow
    have h2 : (a ||| b) % 2 ^ 1 = a % 2 ^ 1 ||| b % 2 ^ 1 := Nat.or_mod_two_pow
    have h3 : (a &&& b) / 2 ^ 1 = a / 2 ^ 1 &&& b / 2 ^ 1 := Nat.and_div_two_pow
    have h4 : (a &&& b) % 2 ^ 1 = a % 2 ^ 1 &&& b % 2 ^ 1 := Nat.and_mod_two_pow
    rw [hz] at h3 h4
    have h5 := ih (a / 2 ^ 1) (b / 2 ^ 1) (by omega) (by omega) h3.symm
    have h6 : a % 2 ^ 1 ||| b % 2 ^ 1 = a % 2 ^ 1 + b % 2 ^ 1 := by
      rw [show (2 : Nat) ^ 1 = 2 from rfl] at h4 ⊢
      rcases Nat.mod_two_eq_zero_or_one a with x | x <;> rcases Nat.mod_two_eq_zero_or_one b with y | y <;> rw [x, y] at h4 ⊢ <;> first | rfl | exact absurd h4 (by decide)
    omega
theorem sb_half {a G : Nat} (h : sb a G) : sb (a / 2) (G / 2) := by
  intro p hp
  unfold mb at hp ⊢
  rw [Nat.testBit_div_two] at hp ⊢
  exact h _ hp
theorem sb_odd {a G : Nat} (h : sb a G) : a % 2 ≤ G % 2 := by
  have := h 0
  unfold mb at this
  rw [Nat.testBit_zero, Nat.testBit_zero, decide_eq_true_eq, decide_eq_true_eq] at this
  omega
theorem sb_le : ∀ n a G, a < 2 ^ n → sb a G → a ≤ G := by
  intro n
  induction n with
  | zero => intro a G ha _; omega
  | succ n ih =>
    intro a G ha h
    have := ih (a / 2) (G / 2) (by omega) (sb_half h)
    have := sb_odd h
    omega
/-- the greatest set of G below r -/
theorem low : ∀ n r t G, r < 2 ^ n → sb r G → sb t G → t < r → t ≤ (r - 1) &&& G := by
  intro n
  induction n with
  | zero => intro r t G hr _ _ h; omega
  | succ n ih =>
    intro r t G hr h1 h2 h
    have x1 : ((r - 1) &&& G) / 2 ^ 1 = (r - 1) / 2 ^ 1 &&& G / 2 ^ 1 := Nat.and_div_two_pow
    have x2 : ((r - 1) &&& G) % 2 ^ 1 = (r - 1) % 2 ^ 1 &&& G % 2 ^ 1 := Nat.and_mod_two_pow
    rw [show (2 : Nat) ^ 1 = 2 from rfl] at x1 x2
    by_cases c : r % 2 = 1
    · rw [show (r - 1) / 2 = r / 2 by omega, sb_and (sb_half h1)] at x1
      omega
    · rw [show (r - 1) / 2 = r / 2 - 1 by omega] at x1
      have i1 := ih (r / 2) (t / 2) (G / 2) (by omega) (sb_half h1) (sb_half h2) (by omega)
      rw [← x1] at i1
      have i2 := sb_odd h2
      have i3 : ((r - 1) &&& G) % 2 = G % 2 := by
        rw [x2, show (r - 1) % 2 = 1 by omega]
        rcases Nat.mod_two_eq_zero_or_one G with z | z <;> rw [z] <;> rfl
      omega
theorem dif_sb (G s : Nat) : sb (dif G s) G := fun p h => ((mb_dif _ _ _).mp h).1
theorem dif_add {G s : Nat} (hG : G < 4096) (h : sb s G) : s + dif G s = G := by
  have hs : s < 4096 := by
    apply Classical.byContradiction
    intro z
    obtain ⟨i, hi, hb⟩ := Nat.exists_ge_and_testBit_of_ge_two_pow (n := 12) (x := s) (by omega)
    exact absurd (mb_12 hG (h i hb)) (by omega)
  have hd : dif G s < 4096 := Nat.lt_of_le_of_lt (Nat.le_of_eq rfl) (by
    apply Classical.byContradiction
    intro z
    obtain ⟨i, hi, hb⟩ := Nat.exists_ge_and_testBit_of_ge_two_pow (n := 12) (x := dif G s) (by omega)
    exact absurd (mb_12 hG (dif_sb G s i hb)) (by omega))
  rw [← or_add 12 s (dif G s) hs hd (mb_ext (fun p => by
    rw [mb_and, mb_dif]
    exact ⟨fun z => absurd z.1 z.2.2, fun z => absurd z (mb_0 p)⟩))]
  apply mb_ext
  intro p
  rw [mb_or, mb_dif]
  constructor
  · intro z
    rcases z with z | z
    · exact h p z
    · exact z.1
  · intro z
    by_cases c : mb s p
    · exact Or.inl c
    · exact Or.inr ⟨z, c⟩
theorem sb_lt {G s : Nat} (hG : G < 4096) (h : sb s G) : s < 4096 := by
  have := dif_add hG h
  omega
/-- what a set weighs: first how many, then its number -/
def wt (a : Nat) : Nat := 4096 * pc a + a
theorem bN_add {a b : Nat} (h : a &&& b = 0) (p : Nat) : bN (a ||| b) p = bN a p + bN b p := by
  have hp : ¬ mb (a &&& b) p := by rw [h]; exact mb_0 p
  rw [mb_and] at hp
  unfold mb at hp
  unfold bN
  rw [Nat.testBit_or]
  cases x : a.testBit p <;> cases y : b.testBit p <;> simp_all
theorem pc_add {a b : Nat} (h : a &&& b = 0) : pc (a ||| b) = pc a + pc b := by
  unfold pc
  simp only [bN_add h]
  omega
theorem wt_add {a b : Nat} (ha : a < 4096) (hb : b < 4096) (h : a &&& b = 0) : wt (a ||| b) = wt a + wt b := by
  unfold wt
  rw [pc_add h, or_add 12 a b ha hb h]
  omega
theorem pc_0 {a : Nat} (ha : a < 4096) (h : pc a = 0) : a = 0 := by
  apply mb_ext
  intro p
  constructor
  · intro z
    have h12 := mb_12 ha z
    have hb : bN a p = 1 := by unfold bN; rw [if_pos (show a.testBit p = true from z)]
    unfold pc at h
    have hp : p = 0 ∨ p = 1 ∨ p = 2 ∨ p = 3 ∨ p = 4 ∨ p = 5 ∨ p = 6 ∨ p = 7 ∨ p = 8 ∨ p = 9 ∨ p = 10 ∨ p = 11 := by omega
    rcases hp with e | e | e | e | e | e | e | e | e | e | e | e <;> subst e <;> omega
  · intro z; exact absurd z (mb_0 p)
theorem dif_pc {G s : Nat} (h : sb s G) : pc G = pc s + pc (dif G s) := by
  rw [← pc_add (mb_ext (fun p => by
    rw [mb_and, mb_dif]
    exact ⟨fun z => absurd z.1 z.2.2, fun z => absurd z (mb_0 p)⟩))]
  congr 1
  apply mb_ext
  intro p
  rw [mb_or, mb_dif]
  constructor
  · intro z
    by_cases c : mb s p
    · exact Or.inl c
    · exact Or.inr ⟨z, c⟩
  · intro z
    rcases z with z | z
    · exact h p z
    · exact z.1
/-- one is the best -/
def bst (Q : Nat → Prop) (m : Nat) : Prop := Q m ∧ ∀ s, Q s → wt m ≤ wt s
def gr (N : Nat → Nat) (j : Nat) : Nat := grp N (j / 6) (j % 6) 12
def cd (N : Nat → Nat) (p : Nat) : Nat := 6 * N (15 + 4 * p) + N (16 + 4 * p)
def tm (N : Nat → Nat) (i : Nat) : Nat := mk (fun p => (N 14).testBit p && decide (cd N p < i)) 12
def qG (N : Nat → Nat) (g j s : Nat) : Prop := sb s (gr N j) ∧ sm N (dif (gr N j) s) 12 ≤ g
def qT (N : Nat → Nat) (g i s : Nat) : Prop := sb s (tm N i) ∧ ∀ j, j < i → sm N (dif (gr N j) s) 12 ≤ g
theorem mb_gr {N : Nat → Nat} (I : inv N) (j p : Nat) : mb (gr N j) p ↔ p < 12 ∧ mb (N 14) p ∧ cd N p = j := by
  unfold mb gr cd
  rw [grp_bit, decide_eq_true_eq]
  constructor
  · intro ⟨a, b, c, d⟩
    exact ⟨a, b, by omega⟩
  · intro ⟨a, b, c⟩
    obtain ⟨-, j2, -⟩ := I.2.2.2.2.2.2.2.1 p a
    exact ⟨a, b, by omega, by omega⟩
theorem mb_tm (N : Nat → Nat) (i p : Nat) : mb (tm N i) p ↔ p < 12 ∧ mb (N 14) p ∧ cd N p < i := by
  unfold mb tm
  rw [mk_bit]
  simp
theorem gr_lt (N : Nat → Nat) (j : Nat) : gr N j < 4096 := grp_lt N _ _ 12
theorem tm_lt (N : Nat → Nat) (j : Nat) : tm N j < 4096 := mk_lt _ 12
theorem v_step {N : Nat → Nat} (I : inv N) {g i U m : Nat} (hU : bst (qT N g i) U) (hm : bst (qG N g i) m) : bst (qT N g (i + 1)) (U ||| m) := by
  obtain ⟨⟨u1, u2⟩, u3⟩ := hU
  obtain ⟨⟨m1, m2⟩, m3⟩ := hm
  have dU : ∀ p, mb U p → p < 12 ∧ mb (N 14) p ∧ cd N p < i := fun p z => (mb_tm N i p).mp (u1 p z)
  have dm : ∀ p, mb m p → p < 12 ∧ mb (N 14) p ∧ cd N p = i := fun p z => (mb_gr I i p).mp (m1 p z)
  have dz : U &&& m = 0 := mb_ext (fun p => by
    rw [mb_and]
    constructor
    · intro ⟨a, b⟩
      have h1 := dU p a
      have h2 := dm p b
      omega
    · intro z; exact absurd z (mb_0 p))
  refine ⟨⟨?_, ?_⟩, ?_⟩
  · intro p z
    rw [mb_or] at z
    rw [mb_tm]
    rcases z with z | z
    · have := dU p z; exact ⟨this.1, this.2.1, by omega⟩
    · have := dm p z; exact ⟨this.1, this.2.1, by omega⟩
  · intro j hj
    by_cases c : j = i
    · subst c
      rw [show dif (gr N j) (U ||| m) = dif (gr N j) m from mb_ext (fun p => by
        rw [mb_dif, mb_dif, mb_or]
        constructor
        · intro ⟨a, b⟩; exact ⟨a, fun z => b (Or.inr z)⟩
        · intro ⟨a, b⟩
          refine ⟨a, fun z => z.elim (fun z => ?_) b⟩
          have h1 := dU p z
          have h2 := (mb_gr I j p).mp a
          omega)]
      exact m2
    · rw [show dif (gr N j) (U ||| m) = dif (gr N j) U from mb_ext (fun p => by
        rw [mb_dif, mb_dif, mb_or]
        constructor
        · intro ⟨a, b⟩; exact ⟨a, fun z => b (Or.inl z)⟩
        · intro ⟨a, b⟩
          refine ⟨a, fun z => z.elim b (fun z => ?_)⟩
          have h1 := dm p z
          have h2 := (mb_gr I j p).mp a
          omega)]
      exact u2 j (by omega)
  · intro s ⟨s1, s2⟩
    have ds : ∀ p, mb s p → p < 12 ∧ mb (N 14) p ∧ cd N p < i + 1 := fun p z => (mb_tm N (i + 1) p).mp (s1 p z)
    have e : s = (s &&& tm N i) ||| (s &&& gr N i) := mb_ext (fun p => by
      rw [mb_or, mb_and, mb_and, mb_tm, mb_gr I]
      constructor
      · intro z
        have := ds p z
        by_cases c : cd N p = i
        · exact Or.inr ⟨z, this.1, this.2.1, c⟩
        · exact Or.inl ⟨z, this.1, this.2.1, by omega⟩
      · intro z; rcases z with z | z <;> exact z.1)
    have ez : (s &&& tm N i) &&& (s &&& gr N i) = 0 := mb_ext (fun p => by
      rw [mb_and, mb_and, mb_and, mb_tm, mb_gr I]
      constructor
      · intro ⟨⟨_, a⟩, ⟨_, b⟩⟩; omega
      · intro z; exact absurd z (mb_0 p))
    have l1 : s &&& tm N i < 4096 := Nat.lt_of_le_of_lt Nat.and_le_right (tm_lt N i)
    have l2 : s &&& gr N i < 4096 := Nat.lt_of_le_of_lt Nat.and_le_right (gr_lt N i)
    have h1 := u3 (s &&& tm N i) ⟨fun p z => ((mb_and _ _ _).mp z).2, fun j hj => by
      rw [show dif (gr N j) (s &&& tm N i) = dif (gr N j) s from mb_ext (fun p => by
        rw [mb_dif, mb_dif, mb_and, mb_gr I, mb_tm]
        constructor
        · intro ⟨a, b⟩; exact ⟨a, fun z => b ⟨z, a.1, a.2.1, by omega⟩⟩
        · intro ⟨a, b⟩; exact ⟨a, fun z => b z.1⟩)]
      exact s2 j (by omega)⟩
    have h2 := m3 (s &&& gr N i) ⟨fun p z => ((mb_and _ _ _).mp z).2, by
      rw [show dif (gr N i) (s &&& gr N i) = dif (gr N i) s from mb_ext (fun p => by
        rw [mb_dif, mb_dif, mb_and]
        constructor
        · intro ⟨a, b⟩; exact ⟨a, fun z => b ⟨z, a⟩⟩
        · intro ⟨a, b⟩; exact ⟨a, fun z => b z.1⟩)]
      exact s2 i (by omega)⟩
    have lu : U < 4096 := sb_lt (tm_lt N i) u1
    have lm : m < 4096 := sb_lt (gr_lt N i) m1
    rw [e, wt_add l1 l2 ez, wt_add lu lm dz]
    omega
theorem v_zero (N : Nat → Nat) (g : Nat) : bst (qT N g 0) 0 := ⟨⟨fun p z => absurd z (mb_0 p), fun j hj => by omega⟩, fun s _ => Nat.zero_le _⟩
theorem tm_24 {N : Nat → Nat} (I : inv N) : tm N 24 = N 14 := mb_ext (fun p => by
  rw [mb_tm]
  constructor
  · intro z; exact z.2.1
  · intro z
    have h12 := mb_12 I.2.2.2.2.2.2.1 z
    obtain ⟨j1, j2, -⟩ := I.2.2.2.2.2.2.2.1 p h12
    exact ⟨h12, z, by unfold cd; omega⟩)
theorem wt_inj {a b : Nat} (ha : a < 4096) (hb : b < 4096) (h : wt a = wt b) : a = b := by
  unfold wt at h
  generalize pc a = x at h
  generalize pc b = y at h
  omega
