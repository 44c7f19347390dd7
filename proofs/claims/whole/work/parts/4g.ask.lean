/-! ASK, in numbers: how many worlds are left at the most -/
def ctW (f : Nat → Bool) (v : Nat → Nat) (g : Nat) : Nat → Nat
  | 0 => 0
  | n + 1 => ctW f v g n + if f n = true ∧ v n = g then 1 else 0
def ms (f : Nat → Bool) (v : Nat → Nat) : Nat → Nat
  | 0 => 0
  | n + 1 => if f n then max (ms f v n) (ctW f v (v n) (n + 1)) else ms f v n
def wo (f : Nat → Bool) (v : Nat → Nat) : Nat → Nat
  | 0 => 0
  | n + 1 => max (wo f v n) (if f (cw n) then ctW f v (v (cw n)) 49 else 0)
theorem ct_mono (f : Nat → Bool) (v : Nat → Nat) (g : Nat) {m : Nat} : ∀ n, m ≤ n → ctW f v g m ≤ ctW f v g n := by
  intro n
  induction n with
  | zero => intro h; rw [show m = 0 by omega]; exact Nat.le_refl _
  | succ n ih =>
    intro h
    by_cases e : m = n + 1
    · rw [e]; exact Nat.le_refl _
    · have := ih (by omega)
      show _ ≤ ctW f v g n + _
      omega
theorem ms_ge (f : Nat → Bool) (v : Nat → Nat) : ∀ n g, ctW f v g n ≤ ms f v n := by
  intro n
  induction n with
  | zero => intro g; exact Nat.le_refl _
  | succ n ih =>
    intro g
    have h1 := ih g
    unfold ms
    by_cases c1 : f n = true
    · rw [if_pos c1]
      by_cases c2 : v n = g
      · rw [c2]; exact Nat.le_max_right _ _
      · have : ctW f v g (n + 1) = ctW f v g n := by
          show ctW f v g n + _ = _
          rw [if_neg (fun z => c2 z.2)]
          rfl
        rw [this]
        exact Nat.le_trans h1 (Nat.le_max_left _ _)
    · rw [if_neg c1]
      have : ctW f v g (n + 1) = ctW f v g n := by
        show ctW f v g n + _ = _
        rw [if_neg (fun z => c1 z.1)]
        rfl
      rw [this]
      exact h1
theorem ms_le (f : Nat → Bool) (v : Nat → Nat) : ∀ n, n ≤ 49 → ms f v n = 0 ∨ ∃ W, W < n ∧ f W = true ∧ ms f v n ≤ ctW f v (v W) 49 := by
  intro n
  induction n with
  | zero => intro _; exact Or.inl rfl
  | succ n ih =>
    intro hn
    unfold ms
    by_cases c1 : f n = true
    · rw [if_pos c1]
      right
      rcases Nat.le_total (ms f v n) (ctW f v (v n) (n + 1)) with h | h
      · rw [Nat.max_eq_right h]
        exact ⟨n, by omega, c1, ct_mono f v _ 49 (by omega)⟩
      · rw [Nat.max_eq_left h]
        rcases ih (by omega) with z | ⟨W, h1, h2, h3⟩
        · exact ⟨n, by omega, c1, by rw [z]; exact Nat.zero_le _⟩
        · exact ⟨W, by omega, h2, h3⟩
    · rw [if_neg c1]
      rcases ih (by omega) with z | ⟨W, h1, h2, h3⟩
      · exact Or.inl z
      · exact Or.inr ⟨W, by omega, h2, h3⟩
theorem wo_ge (f : Nat → Bool) (v : Nat → Nat) : ∀ n R, R < n → f (cw R) = true → ctW f v (v (cw R)) 49 ≤ wo f v n := by
  intro n
  induction n with
  | zero => intro R h; omega
  | succ n ih =>
    intro R hR hf
    unfold wo
    by_cases e : R = n
    · subst e
      rw [if_pos hf]
      exact Nat.le_max_right _ _
    · exact Nat.le_trans (ih R (by omega) hf) (Nat.le_max_left _ _)
theorem wo_le (f : Nat → Bool) (v : Nat → Nat) (X : Nat) (hX : ∀ g, ctW f v g 49 ≤ X) : ∀ n, wo f v n ≤ X := by
  intro n
  induction n with
  | zero => exact Nat.zero_le _
  | succ n ih =>
    unfold wo
    apply Nat.max_le.mpr
    refine ⟨ih, ?_⟩
    split
    · exact hX _
    · exact Nat.zero_le _
theorem cw_on {W : Nat} (hW : W < 49) : ∃ R, R < 49 ∧ cw R = W := by
  by_cases c1 : W = 0
  · exact ⟨48, by decide, by rw [c1]; rfl⟩
  · refine ⟨W - 1, by omega, ?_⟩
    unfold cw
    rw [if_neg (by omega)]
    omega
theorem ms_wo (f : Nat → Bool) (v : Nat → Nat) : ms f v 49 = wo f v 49 := by
  apply Nat.le_antisymm
  · rcases ms_le f v 49 (Nat.le_refl _) with z | ⟨W, h1, h2, h3⟩
    · rw [z]; exact Nat.zero_le _
    · obtain ⟨R, hR, e⟩ := cw_on h1
      refine Nat.le_trans h3 ?_
      have := wo_ge f v 49 R hR (by rw [e]; exact h2)
      rw [e] at this
      exact this
  · exact wo_le f v _ (fun g => ms_ge f v 49 g) 49
