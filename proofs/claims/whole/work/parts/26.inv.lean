/-! WHAT ALWAYS HOLDS OF A BOOK is kept by the acts -/
theorem gone_ne (N : Nat → Nat) (p : Nat) {i : Nat} (h1 : i ≠ 13) (h2 : i ≠ 14) : sp_gone N p i = N i := by
  unfold sp_gone
  split
  · rw [gu_ne _ _ h1, gu_ne _ _ h2]
  · rw [gu_ne _ _ h2]
theorem gone_14 (N : Nat → Nat) (p : Nat) : sp_gone N p 14 = clr (N 14) p := by
  unfold sp_gone
  split
  · rw [gu_ne _ _ (by decide), gu_self]
  · rw [gu_self]
theorem gone_13 (N : Nat → Nat) (p : Nat) : sp_gone N p 13 = if clr (N 14) p = 0 then 0 else N 13 := by
  unfold sp_gone
  split
  · rw [gu_self]
  · rw [gu_ne _ _ (by decide)]
theorem inv_gone {N : Nat → Nat} (I : inv N) (p : Nat) : inv (sp_gone N p) := by
  obtain ⟨i1, i2, i3, i4, i5, i6, i7, i8, i9⟩ := I
  have hc := clr_le (N 14) p
  refine ⟨fun i hi => ?_, fun i hi => ?_, ?_, ?_, ?_, ?_, ?_, fun q hq => ?_, fun q hq hb => ?_⟩
  · rw [gone_ne _ _ (by omega) (by omega)]; exact i1 i hi
  · rw [gone_ne _ _ (by omega) (by omega)]; exact i2 i hi
  · rw [gone_ne _ _ (by omega) (by omega)]; exact i3
  · rw [gone_ne _ _ (by omega) (by omega)]; exact i4
  · rw [gone_ne _ _ (by omega) (by omega)]; exact i5
  · rw [gone_13]; split <;> omega
  · rw [gone_14]; omega
  · rw [gone_ne _ _ (by omega) (by omega), gone_ne _ _ (by omega) (by omega), gone_ne _ _ (by omega) (by omega), gone_ne _ _ (by omega) (by omega)]; exact i8 q hq
  · rw [gone_14, clr_testBit, Bool.and_eq_true] at hb
    have := i9 q hq hb.1
    rw [gone_13, gone_ne _ _ (by omega) (by omega), gone_ne _ _ (by omega) (by omega), if_neg]
    · exact this
    · intro z
      have h2 := clr_testBit (N 14) p q
      rw [z, Nat.zero_testBit, hb.1, hb.2] at h2
      cases h2
theorem inv_gets {N : Nat → Nat} (I : inv N) {b : Nat} (hb : b < 4) (m : Nat) : inv (sp_gets N b m) := by
  obtain ⟨i1, i2, i3, i4, i5, i6, i7, i8, i9⟩ := I
  unfold sp_gets
  refine ⟨fun i hi => ?_, fun i hi => ?_, ?_, ?_, ?_, ?_, ?_, fun q hq => ?_, fun q hq hb => ?_⟩
  · rw [gu_ne _ _ (by omega)]; exact i1 i hi
  · by_cases e : i = b
    · subst e; rw [gu_self]; omega
    · rw [gu_ne _ _ (by omega)]; exact i2 i hi
  · rw [gu_ne _ _ (by omega)]; exact i3
  · rw [gu_ne _ _ (by omega)]; exact i4
  · rw [gu_ne _ _ (by omega)]; exact i5
  · rw [gu_ne _ _ (by omega)]; exact i6
  · rw [gu_ne _ _ (by omega)]; exact i7
  · rw [gu_ne _ _ (by omega), gu_ne _ _ (by omega), gu_ne _ _ (by omega), gu_ne _ _ (by omega)]; exact i8 q hq
  · rw [gu_ne _ _ (by omega)] at hb
    rw [gu_ne _ _ (by omega), gu_ne _ _ (by omega), gu_ne _ _ (by omega)]
    exact i9 q hq hb
theorem inv_cash {N : Nat → Nat} (I : inv N) {b : Nat} (hb : b < 4) {v : Nat} (hv : v ≤ 999) : inv (gu N (6 + b) v) := by
  obtain ⟨i1, i2, i3, i4, i5, i6, i7, i8, i9⟩ := I
  refine ⟨fun i hi => ?_, fun i hi => ?_, ?_, ?_, ?_, ?_, ?_, fun q hq => ?_, fun q hq hb => ?_⟩
  · rw [gu_ne _ _ (by omega)]; exact i1 i hi
  · by_cases e : i = b
    · subst e; rw [gu_self]; omega
    · rw [gu_ne _ _ (by omega)]; exact i2 i hi
  · rw [gu_ne _ _ (by omega)]; exact i3
  · rw [gu_ne _ _ (by omega)]; exact i4
  · rw [gu_ne _ _ (by omega)]; exact i5
  · rw [gu_ne _ _ (by omega)]; exact i6
  · rw [gu_ne _ _ (by omega)]; exact i7
  · rw [gu_ne _ _ (by omega), gu_ne _ _ (by omega), gu_ne _ _ (by omega), gu_ne _ _ (by omega)]; exact i8 q hq
  · rw [gu_ne _ _ (by omega)] at hb
    rw [gu_ne _ _ (by omega), gu_ne _ _ (by omega), gu_ne _ _ (by omega)]
    exact i9 q hq hb
theorem inv_odds {N : Nat → Nat} (I : inv N) {k : Nat} (hk : k < 6) {v : Nat} (hv : v ≤ 9) : inv (gu N k v) := by
  obtain ⟨i1, i2, i3, i4, i5, i6, i7, i8, i9⟩ := I
  refine ⟨fun i hi => ?_, fun i hi => ?_, ?_, ?_, ?_, ?_, ?_, fun q hq => ?_, fun q hq hb => ?_⟩
  · by_cases e : i = k
    · subst e; rw [gu_self]; omega
    · rw [gu_ne _ _ e]; exact i1 i hi
  · rw [gu_ne _ _ (by omega)]; exact i2 i hi
  · rw [gu_ne _ _ (by omega)]; exact i3
  · rw [gu_ne _ _ (by omega)]; exact i4
  · rw [gu_ne _ _ (by omega)]; exact i5
  · rw [gu_ne _ _ (by omega)]; exact i6
  · rw [gu_ne _ _ (by omega)]; exact i7
  · rw [gu_ne _ _ (by omega), gu_ne _ _ (by omega), gu_ne _ _ (by omega), gu_ne _ _ (by omega)]; exact i8 q hq
  · rw [gu_ne _ _ (by omega)] at hb
    rw [gu_ne _ _ (by omega), gu_ne _ _ (by omega), gu_ne _ _ (by omega)]
    exact i9 q hq hb
theorem inv_funds {N : Nat → Nat} (I : inv N) {v : Nat} (hv : v ≤ 9999) : inv (gu N 10 v) := by
  obtain ⟨i1, i2, i3, i4, i5, i6, i7, i8, i9⟩ := I
  refine ⟨fun i hi => ?_, fun i hi => ?_, ?_, ?_, ?_, ?_, ?_, fun q hq => ?_, fun q hq hb => ?_⟩
  · rw [gu_ne _ _ (by omega)]; exact i1 i hi
  · rw [gu_ne _ _ (by omega)]; exact i2 i hi
  · rw [gu_self]; exact hv
  · rw [gu_ne _ _ (by omega)]; exact i4
  · rw [gu_ne _ _ (by omega)]; exact i5
  · rw [gu_ne _ _ (by omega)]; exact i6
  · rw [gu_ne _ _ (by omega)]; exact i7
  · rw [gu_ne _ _ (by omega), gu_ne _ _ (by omega), gu_ne _ _ (by omega), gu_ne _ _ (by omega)]; exact i8 q hq
  · rw [gu_ne _ _ (by omega)] at hb
    rw [gu_ne _ _ (by omega), gu_ne _ _ (by omega), gu_ne _ _ (by omega)]
    exact i9 q hq hb
theorem inv_ended {N : Nat → Nat} (I : inv N) {v : Nat} (hv : v < 64) : inv (gu N 12 v) := by
  obtain ⟨i1, i2, i3, i4, i5, i6, i7, i8, i9⟩ := I
  refine ⟨fun i hi => ?_, fun i hi => ?_, ?_, ?_, ?_, ?_, ?_, fun q hq => ?_, fun q hq hb => ?_⟩
  · rw [gu_ne _ _ (by omega)]; exact i1 i hi
  · rw [gu_ne _ _ (by omega)]; exact i2 i hi
  · rw [gu_ne _ _ (by omega)]; exact i3
  · rw [gu_ne _ _ (by omega)]; exact i4
  · rw [gu_self]; exact hv
  · rw [gu_ne _ _ (by omega)]; exact i6
  · rw [gu_ne _ _ (by omega)]; exact i7
  · rw [gu_ne _ _ (by omega), gu_ne _ _ (by omega), gu_ne _ _ (by omega), gu_ne _ _ (by omega)]; exact i8 q hq
  · rw [gu_ne _ _ (by omega)] at hb
    rw [gu_ne _ _ (by omega), gu_ne _ _ (by omega), gu_ne _ _ (by omega)]
    exact i9 q hq hb
theorem inv_holder {N : Nat → Nat} (I : inv N) {p : Nat} {v : Nat} (hv : v ≤ 3) : inv (gu N (15 + 4 * p) v) := by
  obtain ⟨i1, i2, i3, i4, i5, i6, i7, i8, i9⟩ := I
  refine ⟨fun i hi => ?_, fun i hi => ?_, ?_, ?_, ?_, ?_, ?_, fun q hq => ?_, fun q hq hb => ?_⟩
  · rw [gu_ne _ _ (by omega)]; exact i1 i hi
  · rw [gu_ne _ _ (by omega)]; exact i2 i hi
  · rw [gu_ne _ _ (by omega)]; exact i3
  · rw [gu_ne _ _ (by omega)]; exact i4
  · rw [gu_ne _ _ (by omega)]; exact i5
  · rw [gu_ne _ _ (by omega)]; exact i6
  · rw [gu_ne _ _ (by omega)]; exact i7
  · rw [gu_ne _ _ (show 16 + 4 * q ≠ 15 + 4 * p by omega), gu_ne _ _ (show 17 + 4 * q ≠ 15 + 4 * p by omega), gu_ne _ _ (show 18 + 4 * q ≠ 15 + 4 * p by omega)]
    refine ⟨?_, (i8 q hq).2⟩
    by_cases e : q = p
    · subst e; rw [gu_self]; exact hv
    · rw [gu_ne _ _ (by omega)]; exact (i8 q hq).1
  · rw [gu_ne _ _ (by omega)] at hb
    rw [gu_ne _ _ (by omega), gu_ne _ _ (by omega), gu_ne _ _ (by omega)]
    exact i9 q hq hb
theorem or_lt {a b n : Nat} (ha : a < 2 ^ n) (hb : b < 2 ^ n) : a ||| b < 2 ^ n := Nat.or_lt_two_pow ha hb
theorem inv_enter {N : Nat → Nat} (I : inv N) (h13 : N 13 < 12) {b k c tl : Nat} (hb : b ≤ 3) (hk : k ≤ 5) (hc : c ≤ 9) (ht : tl ≤ 99) (hm : N 11 ≤ tl) : inv (sp_enter N b k (10 * c) tl) := by
  obtain ⟨i1, i2, i3, i4, i5, i6, i7, i8, i9⟩ := I
  have low : ∀ i, i < 13 → sp_enter N b k (10 * c) tl i = N i := by
    intro i hi
    unfold sp_enter
    rw [gu_ne _ _ (by omega), gu_ne _ _ (by omega), gu_ne _ _ (by omega), gu_ne _ _ (by omega), gu_ne _ _ (by omega), gu_ne _ _ (by omega)]
  have e13 : sp_enter N b k (10 * c) tl 13 = N 13 + 1 := gu_self _ _ _
  have e14 : sp_enter N b k (10 * c) tl 14 = N 14 ||| 2 ^ N 13 := by unfold sp_enter; rw [gu_ne _ _ (by omega), gu_self]
  have hi15 : ∀ q, (q = N 13 → sp_enter N b k (10 * c) tl (15 + 4 * q) = b ∧ sp_enter N b k (10 * c) tl (16 + 4 * q) = k ∧ sp_enter N b k (10 * c) tl (17 + 4 * q) = 10 * c ∧ sp_enter N b k (10 * c) tl (18 + 4 * q) = tl) ∧ (q ≠ N 13 → sp_enter N b k (10 * c) tl (15 + 4 * q) = N (15 + 4 * q) ∧ sp_enter N b k (10 * c) tl (16 + 4 * q) = N (16 + 4 * q) ∧ sp_enter N b k (10 * c) tl (17 + 4 * q) = N (17 + 4 * q) ∧ sp_enter N b k (10 * c) tl (18 + 4 * q) = N (18 + 4 * q)) := by
    intro q
    constructor
    · intro e
      subst e
      unfold sp_enter
      refine ⟨?_, ?_, ?_, ?_⟩
      · rw [gu_ne _ _ (by omega), gu_ne _ _ (by omega), gu_ne _ _ (by omega), gu_ne _ _ (by omega), gu_ne _ _ (by omega), gu_self]
      · rw [gu_ne _ _ (by omega), gu_ne _ _ (by omega), gu_ne _ _ (by omega), gu_ne _ _ (by omega), gu_self]
      · rw [gu_ne _ _ (by omega), gu_ne _ _ (by omega), gu_ne _ _ (by omega), gu_self]
      · rw [gu_ne _ _ (by omega), gu_ne _ _ (by omega), gu_self]
    · intro e
      unfold sp_enter
      refine ⟨?_, ?_, ?_, ?_⟩ <;> rw [gu_ne _ _ (by omega), gu_ne _ _ (by omega), gu_ne _ _ (by omega), gu_ne _ _ (by omega), gu_ne _ _ (by omega), gu_ne _ _ (by omega)]
  refine ⟨fun i hi => ?_, fun i hi => ?_, ?_, ?_, ?_, ?_, ?_, fun q hq => ?_, fun q hq hb2 => ?_⟩
  · rw [low _ (by omega)]; exact i1 i hi
  · rw [low _ (by omega)]; exact i2 i hi
  · rw [low _ (by omega)]; exact i3
  · rw [low _ (by omega)]; exact i4
  · rw [low _ (by omega)]; exact i5
  · rw [e13]; omega
  · rw [e14]
    exact or_lt (n := 12) i7 (Nat.pow_lt_pow_right (by omega) h13)
  · by_cases e : q = N 13
    · obtain ⟨a1, a2, a3, a4⟩ := (hi15 q).1 e
      rw [a1, a2, a3, a4]
      exact ⟨hb, hk, ⟨c, hc, rfl⟩, ht⟩
    · obtain ⟨a1, a2, a3, a4⟩ := (hi15 q).2 e
      rw [a1, a2, a3, a4]
      exact i8 q hq
  · rw [e13, low 11 (by omega)]
    by_cases e : q = N 13
    · obtain ⟨a1, a2, a3, a4⟩ := (hi15 q).1 e
      rw [a4]
      exact ⟨by omega, hm⟩
    · obtain ⟨a1, a2, a3, a4⟩ := (hi15 q).2 e
      rw [a4]
      rw [e14, Nat.testBit_or, Nat.testBit_two_pow, decide_eq_false (Ne.symm e), Bool.or_false] at hb2
      have := i9 q hq hb2
      exact ⟨by omega, this.2⟩
theorem inv_buy {N : Nat → Nat} (I : inv N) {b k c t : Nat} (hb : b < 4) (hk : k < 6) (hc : c ≤ 9) (ht1 : 1 ≤ t) : inv (sp_buy N b k c t).2 := by
  have I0 := I
  obtain ⟨i1, i2, i3, i4, i5, i6, i7, i8, i9⟩ := I0
  unfold sp_buy
  split
  · exact I
  split
  · exact I
  split
  · exact I
  split
  · exact I
  have j2 := i2 b hb
  rename_i c1 c2 c3 c4
  have I2 : inv (gu (gu N (6 + b) (N (6 + b) - prc (10 * c) (N k) t)) 10 (min 9999 (N 10 + prc (10 * c) (N k) t))) := inv_funds (inv_cash I hb (by omega)) (Nat.min_le_left _ _)
  have e13 : (gu (gu N (6 + b) (N (6 + b) - prc (10 * c) (N k) t)) 10 (min 9999 (N 10 + prc (10 * c) (N k) t))) 13 = N 13 := by rw [gu_ne _ _ (by omega), gu_ne _ _ (by omega)]
  have e11 : (gu (gu N (6 + b) (N (6 + b) - prc (10 * c) (N k) t)) 10 (min 9999 (N 10 + prc (10 * c) (N k) t))) 11 = N 11 := by rw [gu_ne _ _ (by omega), gu_ne _ _ (by omega)]
  exact inv_enter I2 (by rw [e13]; omega) (by omega) (by omega) hc (by omega) (by rw [e11]; omega)
theorem inv_pass {N : Nat → Nat} (I : inv N) {b p q : Nat} (hb : b < 4) (hq : q < 4) : inv (sp_pass N b p q).2 := by
  unfold sp_pass
  split
  · exact I
  split
  · exact I
  split
  · exact I
  have j2 := I.2.1 q hq
  exact inv_holder (inv_gets (inv_cash I hq (by omega)) hb 1) (by omega)
theorem inv_walk {N : Nat → Nat} (I : inv N) {k : Nat} (hk : k < 6) : inv (sp_walk N k).2 := by
  have j := I.1 k hk
  unfold sp_walk
  split
  · exact I
  split
  · exact I
  exact inv_odds I hk (by omega)
theorem inv_rum {N : Nat → Nat} (I : inv N) {k : Nat} (hk : k < 6) : inv (sp_rum N k).2 := by
  have j := I.1 k hk
  unfold sp_rum
  split
  · exact I
  split
  · exact I
  exact inv_odds I hk (by omega)
theorem inv_pay {N : Nat → Nat} (I : inv N) (k : Nat) {p : Nat} (hp : p < 12) : inv (sp_pay N k p) := by
  unfold sp_pay
  split
  · have h3 := I.2.2.1
    refine inv_gone (inv_funds (inv_gets I ?_ _) (by omega)) p
    have := (I.2.2.2.2.2.2.2.1 p hp).1
    omega
  · exact I
theorem inv_pays {N : Nat → Nat} (I : inv N) (k : Nat) : ∀ n, n ≤ 12 → inv (sp_pays N k n) := by
  intro n
  induction n with
  | zero => intro _; exact I
  | succ n ih => intro hn; exact inv_pay (ih (by omega)) k (by omega)
theorem inv_end {N : Nat → Nat} (I : inv N) {k : Nat} (hk : k < 6) : inv (sp_end N k) := by
  unfold sp_end
  refine inv_pays (inv_ended I ?_) k 12 (by omega)
  exact or_lt (n := 6) I.2.2.2.2.1 (Nat.pow_lt_pow_right (by omega) hk)
theorem over_ne (N : Nat → Nat) (p : Nat) {i : Nat} (h1 : i ≠ 13) (h2 : i ≠ 14) : sp_over N p i = N i := by
  unfold sp_over
  split
  · exact gone_ne N p h1 h2
  · rfl
theorem overs_ne (N : Nat → Nat) {i : Nat} (h1 : i ≠ 13) (h2 : i ≠ 14) : ∀ n, sp_overs N n i = N i := by
  intro n
  induction n with
  | zero => rfl
  | succ n ih => rw [sp_overs, over_ne _ _ h1 h2, ih]
theorem inv_over {N : Nat → Nat} (I : inv N) (p : Nat) : inv (sp_over N p) := by
  unfold sp_over
  split
  · exact inv_gone I p
  · exact I
theorem inv_overs {N : Nat → Nat} (I : inv N) : ∀ n, inv (sp_overs N n) := by
  intro n
  induction n with
  | zero => exact I
  | succ n ih => exact inv_over ih n
theorem over_sub {N : Nat → Nat} {p q : Nat} (h : (sp_over N p 14).testBit q = true) : (N 14).testBit q = true := by
  unfold sp_over at h
  split at h
  · rw [gone_14, clr_testBit, Bool.and_eq_true] at h
    exact h.1
  · exact h
theorem overs_past {N : Nat → Nat} : ∀ n q, q < n → (sp_overs N n 14).testBit q = true → N 11 < N (18 + 4 * q) := by
  intro n
  induction n with
  | zero => intro q h; omega
  | succ n ih =>
    intro q hq hb
    rw [sp_overs] at hb
    by_cases e : q = n
    · subst e
      have h1 := over_sub hb
      unfold sp_over at hb
      split at hb
      · rw [gone_14, clr_testBit, Bool.and_eq_true] at hb
        simp at hb
      · rename_i hc
        rw [overs_ne N (i := 18 + 4 * q) (by omega) (by omega) q, overs_ne N (i := 11) (by omega) (by omega) q] at hc
        by_cases g : N (18 + 4 * q) ≤ N 11
        · exact absurd ⟨h1, g⟩ hc
        · omega
    · exact ih q (by omega) (over_sub hb)
theorem inv_month {N : Nat → Nat} (I : inv N) : inv (sp_month N).2 := by
  unfold sp_month
  split
  · exact I
  rename_i h99
  obtain ⟨i1, i2, i3, i4, i5, i6, i7, i8, i9⟩ := inv_overs I 12
  show inv (gu (sp_overs N 12) 11 (N 11 + 1))
  refine ⟨fun i hi => ?_, fun i hi => ?_, ?_, ?_, ?_, ?_, ?_, fun q hq => ?_, fun q hq hb => ?_⟩
  · rw [gu_ne _ _ (by omega)]; exact i1 i hi
  · rw [gu_ne _ _ (by omega)]; exact i2 i hi
  · rw [gu_ne _ _ (by omega)]; exact i3
  · rw [gu_self]; omega
  · rw [gu_ne _ _ (by omega)]; exact i5
  · rw [gu_ne _ _ (by omega)]; exact i6
  · rw [gu_ne _ _ (by omega)]; exact i7
  · rw [gu_ne _ _ (by omega), gu_ne _ _ (by omega), gu_ne _ _ (by omega), gu_ne _ _ (by omega)]; exact i8 q hq
  · rw [gu_ne _ _ (by omega)] at hb
    rw [gu_ne _ _ (by omega), gu_self, gu_ne _ _ (by omega)]
    refine ⟨(i9 q hq hb).1, ?_⟩
    rw [overs_ne _ (by omega) (by omega)]
    have := overs_past 12 q hq hb
    omega
