/-! ASK, 2: the reference's counts -/
def ctp (f : Nat → Bool) (v : Nat → Nat) (g : Nat) : Nat → Nat
  | 0 => 0
  | n + 1 => ctp f v g n + if f (cw n) = true ∧ v (cw n) = g then 1 else 0
theorem ctp_sh (f : Nat → Bool) (v : Nat → Nat) (g : Nat) : ∀ n, n ≤ 48 → ctW f v g (n + 1) = (if f 0 = true ∧ v 0 = g then 1 else 0) + ctp f v g n := by
  intro n
  induction n with
  | zero => intro _; exact Nat.zero_add _
  | succ n ih =>
    intro hn
    show ctW f v g (n + 1) + _ = _ + (ctp f v g n + _)
    rw [ih (by omega), show cw n = n + 1 by unfold cw; rw [if_neg (by omega)]]
    omega
theorem ctp_49 (f : Nat → Bool) (v : Nat → Nat) (g : Nat) : ctp f v g 49 = ctW f v g 49 := by
  rw [show ctW f v g 49 = _ from ctp_sh f v g 48 (Nat.le_refl _)]
  show ctp f v g 48 + (if f 0 = true ∧ v 0 = g then 1 else 0) = _
  omega
theorem ctp_le (f : Nat → Bool) (v : Nat → Nat) (g : Nat) : ∀ n, ctp f v g n ≤ n := by
  intro n
  induction n with
  | zero => exact Nat.le_refl _
  | succ n ih =>
    show ctp f v g n + _ ≤ _
    split <;> omega
section ASK
variable {h : gi_H} {N : Nat → Nat} {ns : Nat} {sg : Nat → Nat} {np : Nat} {a : Int32} {b : Bool} {c d e : Int32} {u : Int64}
theorem m_a56 (G : go h 31 6 (mf ns np a b c d e u)) (B : ga h 32 63 N) (Q : ga h 34 24 sg) (I : inv N) (O : sgok ns sg) {R y k : Nat} (hR : R < 49) (hy : y < 4) (hk : k < 6) (hf : fitW N sg (cw R) ns = true) (K1 : Nat → Int32 → Int32 → Int32 → Int32 → Option Int32) (K2 : Nat → Int32 → Int32 → Int32 → Int32 → Int32 → Option Int32) (K3 : Nat → Int32 → Int32 → Int32 → Int32 → Int32 → Int32 → Int32 → Option Int32) (x1 x2 x3 x6 : Int32) : ∀ n r, r ≤ 49 → 49 - r < n → f_X6_ask_56 h K1 K2 K3 n 31 x1 x2 x3 (nI y) (nI k) x6 (nI R) (nI (ctp (fun W => fitW N sg W ns) (fun W => gw N W y k) (gw N (cw R) y k) r)) (nI r) = f_X6_ask_120 h K1 K2 K3 31 x1 x2 x3 (nI y) (nI k) x6 (nI R) (nI (ctp (fun W => fitW N sg W ns) (fun W => gw N W y k) (gw N (cw R) y k) 49)) := by
  intro n
  induction n with
  | zero => intro r _ hn; omega
  | succ n ih =>
    intro r hr hn
    unfold f_X6_ask_56
    rw [n_ifge 49 49 rfl (by omega) (by decide)]
    by_cases c1 : r = 49
    · rw [if_pos (by omega), c1]
    · have ih1 := ih (r + 1) (by omega) (by omega)
      have hg1 := gw_le I (cw R) y k
      have hg2 := gw_le I (cw r) y k
      have hs : ctp (fun W => fitW N sg W ns) (fun W => gw N W y k) (gw N (cw R) y k) (r + 1) = ctp (fun W => fitW N sg W ns) (fun W => gw N W y k) (gw N (cw R) y k) r + if fitW N sg (cw r) ns = true ∧ gw N (cw r) y k = gw N (cw R) y k then 1 else 0 := rfl
      rw [if_neg (by omega), if_pos (go_is G), m_isW G B Q I O hR, hf, Option.bind_some, if_neg (show ¬ bI true = 0 by decide), if_pos (go_is G), m_isW G B Q I O (by omega), Option.bind_some, if_pos (go_is G), m_gin G B I (by omega) (by omega) (by omega), Option.bind_some, if_pos (go_is G), m_gin G B I hR (by omega) (by omega), Option.bind_some, n_ifc (nI (gw N (cw R) y k)) _ rfl (by omega) (by omega), nI_1, nI_1, show nI (ctp (fun W => fitW N sg W ns) (fun W => gw N W y k) (gw N (cw R) y k) r) + 0 = nI (ctp (fun W => fitW N sg W ns) (fun W => gw N W y k) (gw N (cw R) y k) r) from Int32.add_zero _]
      cases hf2 : fitW N sg (cw r) ns with
      | false =>
        rw [if_neg (fun z => by rw [hf2] at z; cases z.1)] at hs
        rw [if_pos (show bI false = 0 from rfl)]
        rw [hs] at ih1
        exact ih1
      | true =>
        rw [if_neg (show ¬ bI true = 0 by decide)]
        by_cases c2 : gw N (cw r) y k = gw N (cw R) y k
        · rw [if_pos ⟨hf2, c2⟩] at hs
          rw [if_pos c2]
          rw [hs] at ih1
          exact ih1
        · rw [if_neg (fun z => c2 z.2)] at hs
          rw [if_neg c2]
          rw [hs] at ih1
          exact ih1
end ASK
