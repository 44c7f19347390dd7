/-! WORLDS, 2: the reference -/
/-- the reference's world 48 is the book, its world 4 p + b the class's 1 + 4 p + b -/
def cw (R : Nat) : Nat := if R = 48 then 0 else R + 1
section WORLDS2
variable {h : gi_H} {N : Nat → Nat} {ns : Nat} {sg : Nat → Nat} {np : Nat} {a : Int32} {b : Bool} {c d e : Int32} {u : Int64}
theorem m_gin (G : go h 31 6 (mf ns np a b c d e u)) (B : ga h 32 63 N) (I : inv N) {R y k : Nat} (hR : R < 49) (hy : y < 2 ^ 31) (hk : k < 2 ^ 31) : f_X6_gainsIn h 31 (nI R) (nI y) (nI k) = some (nI (gw N (cw R) y k)) := by
  unfold f_X6_gainsIn f_X6_gainsIn_17
  rw [if_pos (go_is G), if_pos (go_is G), n_ifc 48 48 rfl (by omega) (by decide), show nI R - nI R / 4 * 4 = nI (R % 4) from pk_rem (a := R) (d := 4) (by omega) (by decide) (by decide), show nI R / 4 = nI (R / 4) from pk_div (a := R) (d := 4) (by omega) (by decide) (by decide)]
  unfold cw gw
  by_cases c1 : R = 48
  · subst c1
    rw [if_pos rfl, if_pos rfl, if_pos rfl, m_gains (w := 48 % 4) G B I hy hk (by decide) no_odd]
    rfl
  · rw [if_neg c1, if_neg c1, if_neg (show ¬ R + 1 = 0 by omega), m_gains (o := R / 4) G B I hy hk (by omega) (fun p hp => nI_eq (by omega) (by omega)), Nat.add_sub_cancel]
    rfl
theorem fit_no {W : Nat} {i : Nat} (h0 : fitW N sg W i = false) : ∀ n, i ≤ n → fitW N sg W n = false := by
  intro n
  induction n with
  | zero => intro hi; rw [show (0 : Nat) = i by omega]; exact h0
  | succ n ih =>
    intro hi
    by_cases c1 : i = n + 1
    · rw [← c1]; exact h0
    · unfold fitW
      rw [ih (by omega), Bool.false_and]
theorem m_sights (G : go h 31 6 (mf ns np a b c d e u)) (B : ga h 32 63 N) (Q : ga h 34 24 sg) (I : inv N) (O : sgok ns sg) {R : Nat} (hR : R < 49) : ∀ (n i : Nat), i ≤ ns → ns - i < n → f_X6_isWorld_49 h n 31 (nI R) (bI (fitW N sg (cw R) i)) (nI i) = some (bI (fitW N sg (cw R) ns)) := by
  obtain ⟨r, r0, r1, r2, r3, -⟩ := mf_rd G
  have hns := O.1
  intro n
  induction n with
  | zero => intro i _ hn; omega
  | succ n ih =>
    intro i hi hn
    unfold f_X6_isWorld_49
    rw [r2, Option.bind_some, n_ifle (nI i) i rfl (by omega) (by omega), if_pos (bI_ok _)]
    by_cases c1 : ns ≤ i
    · rw [if_pos c1, show i = ns by omega]
    · rw [if_neg c1]
      cases hw : fitW N sg (cw R) i with
      | false =>
        rw [if_pos (show bI false = 0 from rfl), fit_no hw ns (by omega)]
      | true =>
        obtain ⟨o1, o2, o3⟩ := O.2 i (by omega)
        have hg := gw_le I (cw R) (sg (3 * i)) (sg (3 * i + 1))
        have x0 : (3 : Int32) * nI i = nI (3 * i) := pk_mul 3 i
        have x1 : (3 : Int32) * nI i + 1 = nI (3 * i + 1) := by rw [x0, nI_1]
        have x2 : (3 : Int32) * nI i + 2 = nI (3 * i + 2) := by rw [x0]; exact nI_add _ 2
        rw [if_neg (show ¬ bI true = 0 by decide), r3, Option.bind_some, x1, x2, x0, ga_rd Q (by omega) (by decide), Option.bind_some, Option.bind_some, ga_rd Q (by omega) (by decide), Option.bind_some, if_pos r, m_gin G B I hR (by omega) (by omega), Option.bind_some, Option.bind_some, ga_rd Q (by omega) (by decide), Option.bind_some, n_ifc (nI (sg (3 * i + 2))) _ rfl (by omega) (by omega), nI_1]
        have hs : fitW N sg (cw R) (i + 1) = (fitW N sg (cw R) i && decide (gw N (cw R) (sg (3 * i)) (sg (3 * i + 1)) = sg (3 * i + 2))) := rfl
        rw [hw, Bool.true_and] at hs
        have ih1 := ih (i + 1) (by omega) (by omega)
        by_cases c2 : gw N (cw R) (sg (3 * i)) (sg (3 * i + 1)) = sg (3 * i + 2)
        · rw [decide_eq_true c2] at hs
          rw [hs] at ih1
          rw [if_pos c2]
          exact ih1
        · rw [decide_eq_false c2] at hs
          rw [hs] at ih1
          rw [if_neg c2]
          exact ih1
theorem m_isW (G : go h 31 6 (mf ns np a b c d e u)) (B : ga h 32 63 N) (Q : ga h 34 24 sg) (I : inv N) (O : sgok ns sg) {R : Nat} (hR : R < 49) : f_X6_isWorld h 31 (nI R) = some (bI (fitW N sg (cw R) ns)) := by
  have hl := m_sights G B Q I O hR gi_F 0 (by omega) (by have := O.1; unfold gi_F; omega)
  have h0 : fitW N sg (cw R) 0 = wd N (cw R) := rfl
  rw [h0] at hl
  have hl : f_X6_isWorld_49 h gi_F 31 (nI R) (bI (wd N (cw R))) 0 = some (bI (fitW N sg (cw R) ns)) := hl
  generalize fitW N sg (cw R) ns = F at hl ⊢
  have i7 := I.2.2.2.2.2.2.1
  unfold f_X6_isWorld
  rw [n_ifc 48 48 rfl (by omega) (by decide), show nI R - nI R / 4 * 4 = nI (R % 4) from pk_rem (a := R) (d := 4) (by omega) (by decide) (by decide), show nI R / 4 = nI (R / 4) from pk_div (a := R) (d := 4) (by omega) (by decide) (by decide)]
  by_cases c1 : R = 48
  · rw [if_pos c1]
    have : wd N (cw R) = true := by unfold wd cw; rw [if_pos c1]; rfl
    rw [this] at hl
    exact hl
  · have hp : R / 4 < 12 := by omega
    obtain ⟨j1, j2, -⟩ := I.2.2.2.2.2.2.2.1 _ hp
    have hw : wd N (cw R) = ((N 14).testBit (R / 4) && decide (N (15 + 4 * (R / 4)) ≠ R % 4)) := by
      unfold wd cw
      rw [if_neg c1, decide_eq_false (show ¬ R + 1 = 0 by omega), Bool.false_or, Nat.add_sub_cancel]
    rw [if_neg c1, (mf_rd G).2.1, Option.bind_some, ga_rl B (I := 14) (i := 14) rfl (by omega) (by decide), Option.bind_some, x6_has (by omega) (by omega), Option.bind_some, n_ifb, Option.bind_some, ga_rl B (n_15 (R / 4)) (by omega) (by decide), Option.bind_some, n_ifc (nI (R % 4)) _ rfl (by omega) (by omega)]
    rw [hw] at hl
    by_cases c2 : (N 14).testBit (R / 4) = true
    · rw [if_pos c2]
      by_cases c3 : N (15 + 4 * (R / 4)) = R % 4
      · rw [if_pos c3]
        rw [show decide (N (15 + 4 * (R / 4)) ≠ R % 4) = false by simp [c3], Bool.and_false] at hl
        exact hl
      · rw [if_neg c3]
        rw [c2, show decide (N (15 + 4 * (R / 4)) ≠ R % 4) = true by simp [c3]] at hl
        exact hl
    · rw [if_neg c2]
      rw [show (N 14).testBit (R / 4) = false by simpa using c2, Bool.false_and] at hl
      exact hl
end WORLDS2
