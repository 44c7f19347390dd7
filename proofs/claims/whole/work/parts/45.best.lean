/-! OFFERS: the best set -/
def gl (h : gi_H) (a n : Nat) (g : Nat → Int64) : Prop := ∃ f : Nat → Int64, h[a]? = some (.inl (1, n, .inr (.inl f))) ∧ ∀ i, i < n → f i = g i
theorem gl_rd {h : gi_H} {a n : Nat} {g : Nat → Int64} (H : gl h a n g) {i : Nat} (hi : i < n) (hn : n < 2 ^ 31) : gi_al h a (nI i) = some (g i) := by
  obtain ⟨f, h1, h2⟩ := H
  unfold gi_al
  rw [h1]
  simp only
  rw [if_pos ⟨trivial, nI_in hi hn⟩, nI_clamp (by omega), h2 i hi]
theorem gl.fr {l : List Nat} {h h' : gi_H} {a n : Nat} {g : Nat → Int64} (G : gl h a n g) (f : gfr l h h') (e : a ∉ l) : gl h' a n g := by
  obtain ⟨f', h1, h2⟩ := G
  exact ⟨f', by rw [f.2 a e]; exact h1, h2⟩
def guL (g : Nat → Int64) (i : Nat) (v : Int64) : Nat → Int64 := fun j => if j = i then v else g j
theorem gl_wr {h : gi_H} {a n : Nat} {g : Nat → Int64} (H : gl h a n g) {i : Nat} (hi : i < n) (hn : n < 2 ^ 31) (v : Int64) : ∃ h', gi_pl h a (nI i) v = some h' ∧ gl h' a n (guL g i v) ∧ gfr [a] h h' := by
  obtain ⟨f, h1, h2⟩ := H
  unfold gi_pl
  rw [h1]
  simp only
  rw [if_pos ⟨trivial, nI_in hi hn⟩]
  refine ⟨_, rfl, ⟨vp_updL f (nI i).toNatClampNeg v, ?_, fun j hj => ?_⟩, gfr_set _ _⟩
  · rw [List.getElem?_set_self (List.getElem?_eq_some_iff.mp h1).1]
  · rw [nI_clamp (by omega)]
    unfold vp_updL guL
    split
    · rfl
    · exact h2 j hj
theorem lg_le (x y : Int64) : lg_cmp x y ≤ 0 ↔ x ≤ y := by
  unfold lg_cmp
  by_cases h1 : x > y
  · rw [if_pos h1]
    constructor
    · intro z; exact absurd z (by decide)
    · intro z
      rw [gt_iff_lt, Int64.lt_iff_toInt_lt] at h1
      rw [Int64.le_iff_toInt_le] at z
      omega
  · rw [if_neg h1]
    constructor
    · intro _
      rw [gt_iff_lt, Int64.lt_iff_toInt_lt] at h1
      rw [Int64.le_iff_toInt_le]
      omega
    · intro _; split <;> decide
/-! what is offered: of the digits of what is offered, kn of what is known -/
section SPEC
variable (N : Nat → Nat) (w kn t : Nat)
def o_ok (k : Nat) : Bool := !(N 12).testBit k && decide (0 < dg w 6 k)
def o_su (k : Nat) : Nat := if (N 12).testBit k then 0 else 10 * dg w 6 k
def o_co (k : Nat) : Nat := prc (o_su N w k) (N k) t
def o_sv (k : Nat) : Int64 := lN (o_su N w k) * lN (en (dg kn 6 k) t) - lN (o_co N w t k) * lN (10 ^ t)
def o_cs (S : Nat) : Nat → Nat
  | 0 => 0
  | n + 1 => o_cs S n + if S.testBit n then o_co N w t n else 0
def o_ss (S : Nat) : Nat → Int64
  | 0 => 0
  | n + 1 => o_ss S n + if S.testBit n then o_sv N w kn t n else 0
def o_m : Nat → Nat
  | 0 => 0
  | n + 1 => if o_ok N w n then o_m n ||| 2 ^ n else o_m n
/-- the best of the sets below m, and what it brings -/
def o_bs (cash : Nat) : Nat → Nat × Int64
  | 0 => (0, 0)
  | m + 1 => if o_cs N w t m 6 ≤ cash ∧ ¬ o_ss N w kn t m 6 ≤ (o_bs cash m).2 then (m, o_ss N w kn t m 6) else o_bs cash m
end SPEC
theorem prc_0 (o t : Nat) : prc 0 o t = 0 := by
  unfold prc
  have := p10_pos t
  rw [Nat.zero_mul, Nat.zero_add]
  exact Nat.div_eq_of_lt (by omega)
section BEST
variable {N : Nat → Nat} {w kn t : Nat}
theorem o_no {k : Nat} (h : o_ok N w k = false) : o_su N w k = 0 := by
  unfold o_ok at h
  unfold o_su
  cases c : (N 12).testBit k with
  | true => rfl
  | false =>
    rw [c] at h
    simp at h
    simp [h]
theorem o_no2 {k : Nat} (h : o_ok N w k = false) : o_co N w t k = 0 ∧ o_sv N w kn t k = 0 := by
  have h1 : o_co N w t k = 0 := by unfold o_co; rw [o_no h, prc_0]
  refine ⟨h1, ?_⟩
  unfold o_sv
  rw [h1, o_no h, lN_mul, lN_mul, Nat.zero_mul, Nat.zero_mul]
  rfl
theorem o_m_bit : ∀ n q, (o_m N w n).testBit q = (decide (q < n) && o_ok N w q) := by
  intro n
  induction n with
  | zero => intro q; simp [o_m]
  | succ n ih =>
    intro q
    unfold o_m
    by_cases c : o_ok N w n = true
    · rw [if_pos c, Nat.testBit_or, ih, Nat.testBit_two_pow]
      by_cases e : n = q
      · subst e; simp [c]
      · rw [decide_eq_false e, Bool.or_false]
        congr 1
        exact decide_eq_decide.mpr (by omega)
    · rw [if_neg c, ih]
      by_cases e : q = n
      · subst e
        rw [show o_ok N w q = false by simpa using c]
        simp
      · congr 1
        exact decide_eq_decide.mpr (by omega)
theorem o_and (S : Nat) : ∀ n, n ≤ 6 → o_cs N w t (S &&& o_m N w 6) n = o_cs N w t S n ∧ o_ss N w kn t (S &&& o_m N w 6) n = o_ss N w kn t S n := by
  intro n
  induction n with
  | zero => intro _; exact ⟨rfl, rfl⟩
  | succ n ih =>
    intro hn
    obtain ⟨h1, h2⟩ := ih (by omega)
    unfold o_cs o_ss
    rw [h1, h2, Nat.testBit_and, o_m_bit, decide_eq_true (show n < 6 by omega), Bool.true_and]
    cases hk : o_ok N w n with
    | true => rw [Bool.and_true]; exact ⟨rfl, rfl⟩
    | false =>
      obtain ⟨e1, e2⟩ := o_no2 (t := t) (kn := kn) hk
      rw [e1, e2, Bool.and_false]
      simp
/-- no set of the sets below m brings more -/
theorem o_top (cash : Nat) : ∀ m, (∀ s, s < m → o_cs N w t s 6 ≤ cash → o_ss N w kn t s 6 ≤ (o_bs N w kn t cash m).2) ∧ o_ss N w kn t (o_bs N w kn t cash m).1 6 = (o_bs N w kn t cash m).2 ∧ (0 : Int64) ≤ (o_bs N w kn t cash m).2 ∧ (o_bs N w kn t cash m).1 ≤ m := by
  intro m
  induction m with
  | zero =>
    refine ⟨fun s hs => by omega, ?_, ?_, Nat.le_refl _⟩
    · show o_ss N w kn t 0 6 = 0
      simp [o_ss]
    · show (0 : Int64) ≤ 0
      decide
  | succ m ih =>
    obtain ⟨i1, i2, i3, i4⟩ := ih
    unfold o_bs
    by_cases c : o_cs N w t m 6 ≤ cash ∧ ¬ o_ss N w kn t m 6 ≤ (o_bs N w kn t cash m).2
    · rw [if_pos c]
      have c2 := c.2
      rw [Int64.le_iff_toInt_le] at c2 i3
      refine ⟨fun s hs hc => ?_, rfl, ?_, by show m ≤ m + 1; omega⟩
      · by_cases e : s = m
        · subst e; exact Int64.le_refl _
        · have := i1 s (by omega) hc
          show o_ss N w kn t s 6 ≤ o_ss N w kn t m 6
          rw [Int64.le_iff_toInt_le] at this ⊢
          omega
      · show (0 : Int64) ≤ o_ss N w kn t m 6
        rw [Int64.le_iff_toInt_le]
        omega
    · rw [if_neg c]
      refine ⟨fun s hs hc => ?_, i2, i3, by omega⟩
      by_cases e : s = m
      · subst e
        by_cases d : o_ss N w kn t s 6 ≤ (o_bs N w kn t cash s).2
        · exact d
        · exact absurd ⟨hc, d⟩ c
      · exact i1 s (by omega) hc
/-- a set that holds what can not be bought is never better -/
theorem o_bad (cash : Nat) {m k : Nat} (h1 : m.testBit k = true) (hk : k < 6) (h2 : o_ok N w k = false) : o_bs N w kn t cash (m + 1) = o_bs N w kn t cash m := by
  obtain ⟨a1, a2⟩ := o_and (t := t) (kn := kn) (N := N) (w := w) m 6 (Nat.le_refl 6)
  conv => lhs; unfold o_bs
  rw [if_neg]
  intro ⟨c1, c2⟩
  apply c2
  rw [← a2]
  refine (o_top cash m).1 (m &&& o_m N w 6) ?_ (by rw [a1]; exact c1)
  have hle : m &&& o_m N w 6 ≤ m := Nat.and_le_left
  have hne : m &&& o_m N w 6 ≠ m := by
    intro e
    have := Nat.testBit_and m (o_m N w 6) k
    rw [e, h1, o_m_bit, h2, Bool.and_false] at this
    cases this
  omega
end BEST
