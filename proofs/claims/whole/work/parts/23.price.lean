/-! RANGES, POWERS, PRICES: class and reference against numbers -/
theorem x6_in (x l u : Int32) : f_X6_in x l u = f_X5_isWithin x l u := rfl
theorem w_in {x l u : Int32} (h1 : ¬ x < l) (h2 : ¬ u < x) : f_X5_isWithin x l u = some 1 := by unfold f_X5_isWithin; rw [if_neg h1, if_neg h2]
theorem w_out {x l u : Int32} (h : x < l ∨ u < x) : f_X5_isWithin x l u = some 0 := by
  unfold f_X5_isWithin
  by_cases h1 : x < l
  · rw [if_pos h1]
  · rw [if_neg h1, if_pos (h.resolve_left h1)]
/-- a number is outside, or it is one of l to u -/
theorem ar_in (L U : Int32) (l u : Nat) (hL : L = nI l) (hU : U = nI u) (hl : l < 2 ^ 31) (hu : u < 2 ^ 31) (x : Int32) : (f_X5_isWithin x L U = some 0 ∧ f_X6_in x L U = some 0) ∨ ∃ k, l ≤ k ∧ k ≤ u ∧ x = nI k ∧ f_X5_isWithin x L U = some 1 ∧ f_X6_in x L U = some 1 := by
  by_cases h1 : x < L
  · exact Or.inl ⟨w_out (Or.inl h1), w_out (Or.inl h1)⟩
  · by_cases h2 : U < x
    · exact Or.inl ⟨w_out (Or.inr h2), w_out (Or.inr h2)⟩
    · subst hL; subst hU
      obtain ⟨j, a, b, rfl⟩ := n_of_in2 hu hl h1 h2
      exact Or.inr ⟨j, a, b, rfl, w_in h1 h2, w_in h1 h2⟩
theorem in_nI (L U : Int32) {l u k : Nat} (hL : L = nI l) (hU : U = nI u) (hu : u < 2 ^ 31) (h1 : l ≤ k) (h2 : k ≤ u) : f_X5_isWithin (nI k) L U = some 1 := by
  subst hL; subst hU
  exact w_in (nI_nlt h1 (by omega)) (nI_nlt h2 hu)
theorem ar_life (x : Int32) : (f_X5_isLife x = some 0 ∧ f_X6_isLife x = some 0) ∨ ∃ k, k < 6 ∧ x = nI k ∧ f_X5_isLife x = some 1 ∧ f_X6_isLife x = some 1 := by
  unfold f_X5_isLife f_X6_isLife
  rcases ar_in 0 5 0 5 rfl rfl (by decide) (by decide) x with ⟨a, b⟩ | ⟨k, _, h, rfl, a, b⟩
  · left; rw [a, b]; exact ⟨rfl, rfl⟩
  · right; rw [a, b]; exact ⟨k, by omega, rfl, rfl, rfl⟩
theorem ar_buyer (x : Int32) : (f_X5_isBuyer x = some 0 ∧ f_X6_isBuyer x = some 0) ∨ ∃ k, k < 4 ∧ x = nI k ∧ f_X5_isBuyer x = some 1 ∧ f_X6_isBuyer x = some 1 := by
  unfold f_X5_isBuyer f_X6_isBuyer
  rcases ar_in 0 3 0 3 rfl rfl (by decide) (by decide) x with ⟨a, b⟩ | ⟨k, _, h, rfl, a, b⟩
  · left; rw [a, b]; exact ⟨rfl, rfl⟩
  · right; rw [a, b]; exact ⟨k, by omega, rfl, rfl, rfl⟩
theorem ar_part (x : Int32) : (f_X5_isPart x = some 0 ∧ f_X6_in x 0 1 = some 0) ∨ ∃ k, k < 2 ∧ x = nI k ∧ f_X5_isPart x = some 1 ∧ f_X6_in x 0 1 = some 1 := by
  unfold f_X5_isPart
  rcases ar_in 0 1 0 1 rfl rfl (by decide) (by decide) x with ⟨a, b⟩ | ⟨k, _, h, rfl, a, b⟩
  · left; rw [a, b]; exact ⟨rfl, rfl⟩
  · right; rw [a, b]; exact ⟨k, by omega, rfl, rfl, rfl⟩
theorem life_in {k : Nat} (hk : k < 6) : f_X5_isLife (nI k) = some 1 := by unfold f_X5_isLife; rw [in_nI 0 5 rfl rfl (by decide) (Nat.zero_le k) (show k ≤ 5 by omega)]; rfl
theorem buyer_in {k : Nat} (hk : k < 4) : f_X5_isBuyer (nI k) = some 1 := by unfold f_X5_isBuyer; rw [in_nI 0 3 rfl rfl (by decide) (Nat.zero_le k) (show k ≤ 3 by omega)]; rfl
theorem i1_ne0 : ¬ (1 : Int32) = 0 := by decide
/-! powers -/
theorem pw5 (b : Nat) : ∀ (n i t acc : Nat), i ≤ t → t < 2 ^ 31 → t - i < n → f_X5_power_5 n (lN b) (nI t) (lN acc) (nI i) = some (lN (acc * b ^ (t - i))) := by
  intro n
  induction n with
  | zero => intro i t acc _ _ h; omega
  | succ n ih =>
    intro i t acc hi ht hn
    unfold f_X5_power_5
    rcases Nat.lt_or_ge i t with h | h
    · rw [if_neg (nI_ge h ht), lN_mul, nI_1, ih (i + 1) t (acc * b) h ht (by omega), show t - i = (t - (i + 1)) + 1 by omega, Nat.pow_succ, Nat.mul_assoc, Nat.mul_comm b]
    · rw [if_pos (nI_le h (by omega)), show t - i = 0 by omega, Nat.pow_zero, Nat.mul_one]
theorem pw_eq (b : Nat) {t : Nat} (ht : t < 4000) : f_X5_power (lN b) (nI t) = some (lN (b ^ t)) := by
  unfold f_X5_power
  have := pw5 b gi_F 0 t 1 (Nat.zero_le t) (by omega) (by unfold gi_F; omega)
  rw [Nat.one_mul, Nat.sub_zero] at this
  exact this
theorem x6_pw5 : ∀ (n : Nat) (a : Int64) (t : Int32) (acc : Int64) (i : Int32), f_X6_power_5 n a t acc i = f_X5_power_5 n a t acc i := by
  intro n
  induction n with
  | zero => intros; rfl
  | succ n ih =>
    intro a t acc i
    unfold f_X6_power_5 f_X5_power_5
    rw [ih]
theorem x6_pw (a : Int64) (t : Int32) : f_X6_power a t = f_X5_power a t := x6_pw5 _ _ _ _ _
theorem pw10 {t : Nat} (ht : t < 4000) : f_X5_power 10 (nI t) = some (lN (10 ^ t)) := pw_eq 10 ht
theorem n_10s {o : Nat} (ho : o ≤ 10) : Int32.toInt64 (10 - nI o) = lN (10 - o) := by
  show Int32.toInt64 (nI 10 - nI o) = _
  rw [pk_sub ho, nI_l (by omega)]
theorem n_10L {o : Nat} (ho : o ≤ 10) : (10 : Int64) - Int32.toInt64 (nI o) = lN (10 - o) := by
  rw [nI_l (by omega)]
  exact lN_sub ho
/-- how many of 10 to the t lives with these odds end in t months -/
def en (o t : Nat) : Nat := 10 ^ t - (10 - o) ^ t
theorem en_le (o t : Nat) : en o t ≤ 10 ^ t := Nat.sub_le _ _
theorem pow_le10 (o t : Nat) : (10 - o) ^ t ≤ 10 ^ t := Nat.pow_le_pow_left (Nat.sub_le _ _) t
theorem endings_eq {o t : Nat} (ho : o ≤ 10) (ht : t < 4000) : f_X5_endings (nI o) (nI t) = some (lN (en o t)) := by
  unfold f_X5_endings
  rw [pw10 ht]
  simp only [Option.bind_some]
  rw [n_10s ho, pw_eq _ ht]
  simp only [Option.bind_some]
  rw [lN_sub (pow_le10 o t)]
  rfl
/-- the price of a sum, at odds, for t months -/
def prc (s o t : Nat) : Nat := (s * en o t + 10 ^ t - 1) / 10 ^ t
theorem p10_le {t : Nat} (ht : t ≤ 9) : 10 ^ t ≤ 1000000000 := by
  have := Nat.pow_le_pow_right (show 0 < 10 by omega) ht
  simpa using this
theorem p10_pos (t : Nat) : 0 < 10 ^ t := Nat.pow_pos (by omega)
theorem lgc_pos {a : Nat} (ha : 0 < a) (h : a < 2 ^ 63) : lg_cmp (lN a) 0 = 1 := by
  unfold lg_cmp
  rw [if_pos]
  show lN 0 < lN a
  rw [pk_lLT (by decide) h]
  exact ha
theorem prc_le {s o t : Nat} : prc s o t ≤ s := by
  unfold prc
  have h1 := en_le o t
  have h2 := p10_pos t
  have h3 : s * en o t ≤ s * 10 ^ t := Nat.mul_le_mul_left s h1
  rw [Nat.div_le_iff_le_mul_add_pred h2]
  rw [Nat.mul_comm (10 ^ t) s]
  omega
theorem price_eq {s o t : Nat} (hs : s ≤ 1000) (ho : o ≤ 10) (ht : t ≤ 9) : f_X5_priceOf (nI s) (nI o) (nI t) = some (nI (prc s o t)) := by
  unfold f_X5_priceOf
  have h1 := p10_le ht
  have h2 := p10_pos t
  have h3 := en_le o t
  have h4 : s * en o t ≤ 1000 * 10 ^ t := Nat.mul_le_mul hs h3
  rw [pw10 (by omega)]
  simp only [Option.bind_some]
  rw [lgc_pos h2 (by omega), if_pos (by decide), endings_eq ho (by omega)]
  simp only [Option.bind_some]
  rw [if_neg (by show ¬ lN (10 ^ t) = lN 0; rw [pk_lEQ (by omega) (by decide)]; omega), nI_l (by omega), lN_mul, lN_add]
  have e1 : lN (s * en o t + 10 ^ t) - 1 = lN (s * en o t + 10 ^ t - 1) := lN_sub (a := s * en o t + 10 ^ t) (b := 1) (by omega)
  rw [e1, pk_lDiv (by omega) h2 (by omega), lN_i]
  rfl
theorem x6_price_eq {s o t : Nat} (hs : s ≤ 1000) (ho : o ≤ 10) (ht : t ≤ 9) : f_X6_priceOf (nI s) (nI o) (nI t) = some (nI (prc s o t)) := by
  unfold f_X6_priceOf
  have h1 := p10_le ht
  have h2 := p10_pos t
  have h3 := en_le o t
  have h4 : s * en o t ≤ 1000 * 10 ^ t := Nat.mul_le_mul hs h3
  rw [x6_pw, pw10 (by omega)]
  simp only [Option.bind_some]
  rw [n_10L ho, x6_pw, pw_eq _ (by omega)]
  simp only [Option.bind_some]
  rw [if_neg (by show ¬ lN (10 ^ t) = lN 0; rw [pk_lEQ (by omega) (by decide)]; omega), lN_sub (pow_le10 o t), nI_l (by omega), lN_mul, lN_add]
  have e0 : 10 ^ t - (10 - o) ^ t = en o t := rfl
  rw [e0]
  have e1 : lN (s * en o t + 10 ^ t) - 1 = lN (s * en o t + 10 ^ t - 1) := lN_sub (a := s * en o t + 10 ^ t) (b := 1) (by omega)
  rw [e1, pk_lDiv (by omega) h2 (by omega), lN_i]
  rfl
theorem n_10m (c : Nat) : (10 : Int32) * nI c = nI (10 * c) := pk_mul 10 c
