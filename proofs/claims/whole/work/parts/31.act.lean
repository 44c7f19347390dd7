/-! ONE ACT of a month: what is owed, what the class and the reference do -/
/-- what the policies 0 to n - 1 on the lives of L are owed -/
def owe (N : Nat → Nat) (L : Nat) : Nat → Nat
  | 0 => 0
  | n + 1 => owe N L n + if (N 14).testBit n = true ∧ L.testBit (N (16 + 4 * n)) = true then N (17 + 4 * n) else 0
theorem d_owed4 {h : gi_H} {k : Nat} {N : Nat → Nat} {ns : Nat} {sg : Nat → Nat} (H : bk h k N ns sg) (I : inv N) {L : Nat} (hL : L < 2 ^ 31) : ∀ (n p : Nat), p ≤ 12 → 12 - p < n → f_X0_owedFor_4 h n k (nI L) (nI (owe N L p)) (nI p) = some (nI (owe N L 12)) := by
  obtain ⟨i1, i2, i3, i4, i5, i6, i7, i8, i9⟩ := I
  obtain ⟨ri, r0, r1, r2, r3, r4, r5, q6, q7, q8, q9, q10, q11, q12, q13, q14, a6, a7, a8, a9, a10, a11, -⟩ := bk_rd H
  intro n
  induction n with
  | zero => intro p _ h; omega
  | succ n ih =>
    intro p hp hn
    unfold f_X0_owedFor_4
    rw [n_ifge 12 12 rfl (by omega) (by decide)]
    rcases Nat.lt_or_ge p 12 with hlt | hge
    · have j2 := (i8 p hlt).2.1
      rw [if_neg (by omega), if_pos ri, d_stands H i7 hlt, q9, q10]
      simp only [Option.bind_some]
      rw [a9 p hlt, a10 p hlt]
      simp only [Option.bind_some]
      rw [n_ifb, n_bit hL (by omega), n_ifb, nI_add, nI_1]
      have hs : owe N L (p + 1) = owe N L p + if (N 14).testBit p = true ∧ L.testBit (N (16 + 4 * p)) = true then N (17 + 4 * p) else 0 := rfl
      by_cases c1 : (N 14).testBit p = true
      · by_cases c2 : L.testBit (N (16 + 4 * p)) = true
        · rw [if_pos ⟨c1, c2⟩] at hs
          rw [if_pos c1, if_pos c2, ← hs]
          exact ih (p + 1) (by omega) (by omega)
        · rw [if_neg (fun z => c2 z.2)] at hs
          rw [if_pos c1, if_neg c2, show owe N L p = owe N L (p + 1) by rw [hs]; rfl]
          exact ih (p + 1) (by omega) (by omega)
      · rw [if_neg (fun z => c1 z.1)] at hs
        rw [if_neg c1, show owe N L p = owe N L (p + 1) by rw [hs]; rfl]
        exact ih (p + 1) (by omega) (by omega)
    · rw [if_pos (by omega), show p = 12 by omega]
theorem d_owed {h : gi_H} {k : Nat} {N : Nat → Nat} {ns : Nat} {sg : Nat → Nat} (H : bk h k N ns sg) (I : inv N) {L : Nat} (hL : L < 2 ^ 31) : f_X0_owedFor h k (nI L) = some (nI (owe N L 12)) := d_owed4 H I hL gi_F 0 (by omega) (by decide)
theorem pay_hi {N : Nat → Nat} (I : inv N) (k : Nat) {p : Nat} (hp : p < 12) {i : Nat} (hi : 15 ≤ i) : sp_pay N k p i = N i := by
  unfold sp_pay
  split
  · have := (I.2.2.2.2.2.2.2.1 p hp).1
    rw [gone_ne _ _ (by omega) (by omega), gu_ne _ _ (by omega)]
    exact gu_ne _ _ (by omega)
  · rfl
theorem pay_14 {N : Nat → Nat} (I : inv N) (k : Nat) {p : Nat} (hp : p < 12) {q : Nat} (hq : q ≠ p) : (sp_pay N k p 14).testBit q = (N 14).testBit q := by
  unfold sp_pay
  split
  · have := (I.2.2.2.2.2.2.2.1 p hp).1
    rw [gone_14, clr_testBit, gu_ne _ _ (by omega), show sp_gets N (N (15 + 4 * p)) (min (N (17 + 4 * p)) (N 10)) 14 = N 14 from gu_ne _ _ (by omega)]
    simp [hq]
  · rfl
theorem pays_hi {N : Nat → Nat} (I : inv N) (k : Nat) {i : Nat} (hi : 15 ≤ i) : ∀ n, n ≤ 12 → sp_pays N k n i = N i := by
  intro n
  induction n with
  | zero => intro _; rfl
  | succ n ih => intro hn; show sp_pay (sp_pays N k n) k n i = _; rw [pay_hi (inv_pays I k n (by omega)) k (by omega) hi, ih (by omega)]
theorem pays_14 {N : Nat → Nat} (I : inv N) (k : Nat) : ∀ n, n ≤ 12 → ∀ q, n ≤ q → (sp_pays N k n 14).testBit q = (N 14).testBit q := by
  intro n
  induction n with
  | zero => intro _ q _; rfl
  | succ n ih => intro hn q hq; show (sp_pay (sp_pays N k n) k n 14).testBit q = _; rw [pay_14 (inv_pays I k n (by omega)) k (by omega) (by omega), ih (by omega) q (by omega)]
/-- what is paid is short of what is owed just when a policy is paid short -/
theorem sh_owe {N : Nat → Nat} (I : inv N) (k : Nat) : ∀ n, n ≤ 12 → N 10 - sp_pays N k n 10 ≤ owe N (2 ^ k) n ∧ sp_sh N k n = decide (N 10 - sp_pays N k n 10 < owe N (2 ^ k) n) := by
  intro n
  induction n with
  | zero => intro _; exact ⟨by show N 10 - N 10 ≤ 0; omega, by show false = decide (N 10 - N 10 < 0); simp⟩
  | succ n ih =>
    intro hn
    obtain ⟨h1, h2⟩ := ih (by omega)
    have h3 := pays_10 N k n
    have h4 := pays_14 I k n (by omega) n (Nat.le_refl n)
    have h5 := pays_hi I k (i := 16 + 4 * n) (by omega) n (by omega)
    have h6 := pays_hi I k (i := 17 + 4 * n) (by omega) n (by omega)
    show N 10 - sp_pay (sp_pays N k n) k n 10 ≤ owe N (2 ^ k) n + _ ∧ (sp_sh N k n || decide _) = decide (N 10 - sp_pay (sp_pays N k n) k n 10 < owe N (2 ^ k) n + _)
    rw [pay_10, h4, h5, h6, h2, Nat.testBit_two_pow]
    by_cases c : (N 14).testBit n = true ∧ N (16 + 4 * n) = k
    · rw [if_pos c, if_pos ⟨c.1, by simp [c.2]⟩]
      refine ⟨by omega, ?_⟩
      by_cases d : sp_pays N k n 10 < N (17 + 4 * n)
      · rw [show decide ((N 14).testBit n = true ∧ N (16 + 4 * n) = k ∧ sp_pays N k n 10 < N (17 + 4 * n)) = true by simp [c, d], Bool.or_true, eq_comm, decide_eq_true_eq]
        omega
      · rw [show decide ((N 14).testBit n = true ∧ N (16 + 4 * n) = k ∧ sp_pays N k n 10 < N (17 + 4 * n)) = false by simp [d], Bool.or_false]
        congr 1
        apply propext
        omega
    · rw [if_neg c, if_neg (fun z => c ⟨z.1, by simpa using (decide_eq_true_eq.mp z.2).symm⟩)]
      rw [show decide ((N 14).testBit n = true ∧ N (16 + 4 * n) = k ∧ sp_pays N k n 10 < N (17 + 4 * n)) = false by simp only [decide_eq_false_iff_not]; exact fun z => c ⟨z.1, z.2.1⟩, Bool.or_false]
      exact ⟨by omega, rfl⟩
theorem owe_12 (N : Nat → Nat) (v L : Nat) : ∀ n, owe (gu N 12 v) L n = owe N L n := by
  intro n
  induction n with
  | zero => rfl
  | succ n ih =>
    show owe (gu N 12 v) L n + _ = owe N L n + _
    rw [ih, gu_ne _ _ (by omega), gu_ne _ _ (by omega), gu_ne _ _ (by omega)]
/-- reason, book, paid, short -/
def sp_die (N : Nat → Nat) (x : Nat) : Nat × (Nat → Nat) × Nat × Bool := if (N 12).testBit x then (1, N, 0, false) else (0, sp_end N x, N 10 - sp_end N x 10, sp_sh (gu N 12 (N 12 ||| 2 ^ x)) x 12)
theorem inv_die {N : Nat → Nat} (I : inv N) {x : Nat} (hx : x < 6) : inv (sp_die N x).2.1 := by
  unfold sp_die
  split
  · exact I
  · exact inv_end I hx
/-- the act that begins at the sign i: how many signs, reason, book, paid, short -/
def sp_act (P : Nat → Nat) (i : Nat) (N : Nat → Nat) : Nat × Nat × (Nat → Nat) × Nat × Bool :=
  if P i = 46 then (1, (sp_month N).1, (sp_month N).2, 0, false)
  else if 65 ≤ P i ∧ P i ≤ 70 then
    if P (i + 1) = 43 then (2, (sp_walk N (P i - 65)).1, (sp_walk N (P i - 65)).2, 0, false)
    else if P (i + 1) = 45 then (2, (sp_rum N (P i - 65)).1, (sp_rum N (P i - 65)).2, 0, false)
    else (2, sp_die N (P i - 65))
  else if 65 ≤ P (i + 1) ∧ P (i + 1) ≤ 70 then (4, (sp_buy N (P i - 97) (P (i + 1) - 65) (P (i + 2) - 48) (P (i + 3) - 48)).1, (sp_buy N (P i - 97) (P (i + 1) - 65) (P (i + 2) - 48) (P (i + 3) - 48)).2, 0, false)
  else (3, (sp_pass N (P i - 97) (P (i + 1) - 48) (P (i + 2) - 97)).1, (sp_pass N (P i - 97) (P (i + 1) - 48) (P (i + 2) - 97)).2, 0, false)
/-- an act of l signs begins at i -/
def shp (P : Nat → Nat) (i l : Nat) : Prop :=
  (l = 1 ∧ P i = 46) ∨ (l = 2 ∧ (65 ≤ P i ∧ P i ≤ 70) ∧ (P (i + 1) = 43 ∨ P (i + 1) = 45 ∨ P (i + 1) = 120)) ∨
  (l = 4 ∧ (97 ≤ P i ∧ P i ≤ 100) ∧ (65 ≤ P (i + 1) ∧ P (i + 1) ≤ 70) ∧ (49 ≤ P (i + 2) ∧ P (i + 2) ≤ 57) ∧ (49 ≤ P (i + 3) ∧ P (i + 3) ≤ 57)) ∨
  (l = 3 ∧ (97 ≤ P i ∧ P i ≤ 100) ∧ (48 ≤ P (i + 1) ∧ P (i + 1) ≤ 57) ∧ (97 ≤ P (i + 2) ∧ P (i + 2) ≤ 100))
theorem act_len {P : Nat → Nat} {i l : Nat} (S : shp P i l) (N : Nat → Nat) : (sp_act P i N).1 = l := by
  unfold sp_act
  rcases S with ⟨rfl, a⟩ | ⟨rfl, a, b⟩ | ⟨rfl, a, b, c, d⟩ | ⟨rfl, a, b, c⟩
  · rw [if_pos a]
  · rw [if_neg (by omega), if_pos a]
    split
    · rfl
    · split <;> rfl
  · rw [if_neg (by omega), if_neg (by omega), if_pos b]
  · rw [if_neg (by omega), if_neg (by omega), if_neg (by omega)]
theorem inv_act {P : Nat → Nat} {i l : Nat} (S : shp P i l) {N : Nat → Nat} (I : inv N) : inv (sp_act P i N).2.2.1 := by
  unfold sp_act
  rcases S with ⟨rfl, a⟩ | ⟨rfl, a, b⟩ | ⟨rfl, a, b, c, d⟩ | ⟨rfl, a, b, c⟩
  · rw [if_pos a]; exact inv_month I
  · rw [if_neg (by omega), if_pos a]
    split
    · exact inv_walk I (by omega)
    · split
      · exact inv_rum I (by omega)
      · exact inv_die I (by omega)
  · rw [if_neg (by omega), if_neg (by omega), if_pos b]; exact inv_buy I (by omega) (by omega) (by omega) (by omega)
  · rw [if_neg (by omega), if_neg (by omega), if_neg (by omega)]; exact inv_pass I (by omega) (by omega)
theorem flt_s {P : Nat → Nat} {m s i : Nat} (hi : i < 2 ^ 31) (h : flt P (m + 1) s i = -6) : stp s (P i) ≠ 6 ∧ flt P m (stp s (P i)) (i + 1) = -6 := by
  unfold flt at h
  by_cases c : stp s (P i) = 6
  · rw [if_pos c] at h; exact absurd h (n_m6 hi)
  · rw [if_neg c] at h; exact ⟨c, h⟩
theorem flt_0 {P : Nat → Nat} {s i : Nat} (hi : i < 2 ^ 31) (h : flt P 0 s i = -6) : s = 0 := by
  unfold flt at h
  by_cases c : s = 0
  · exact c
  · rw [if_neg c] at h; exact absurd h (n_m6 hi)
theorem flt_shp {P : Nat → Nat} {m i : Nat} (hm : i + m < 1000) (h : flt P (m + 1) 0 i = -6) : ∃ l, 1 ≤ l ∧ l ≤ m + 1 ∧ shp P i l ∧ flt P (m + 1 - l) 0 (i + l) = -6 := by
  obtain ⟨h1, h2⟩ := flt_s (by omega) h
  have hs0 : stp 0 (P i) = if P i = 46 then 0 else if 65 ≤ P i ∧ P i ≤ 70 then 5 else if 97 ≤ P i ∧ P i ≤ 100 then 1 else 6 := rfl
  rw [hs0] at h1 h2
  by_cases a : P i = 46
  · rw [if_pos a] at h2
    exact ⟨1, by omega, by omega, Or.inl ⟨rfl, a⟩, by rw [show m + 1 - 1 = m by omega]; exact h2⟩
  rw [if_neg a] at h1 h2
  by_cases b : 65 ≤ P i ∧ P i ≤ 70
  · rw [if_pos b] at h2
    cases m with
    | zero => exact absurd (flt_0 (by omega) h2) (by decide)
    | succ m =>
      obtain ⟨h3, h4⟩ := flt_s (by omega) h2
      have hs5 : stp 5 (P (i + 1)) = if P (i + 1) = 43 ∨ P (i + 1) = 45 ∨ P (i + 1) = 120 then 0 else 6 := rfl
      rw [hs5] at h3 h4
      by_cases c : P (i + 1) = 43 ∨ P (i + 1) = 45 ∨ P (i + 1) = 120
      · rw [if_pos c] at h4
        exact ⟨2, by omega, by omega, Or.inr (Or.inl ⟨rfl, b, c⟩), by rw [show m + 1 + 1 - 2 = m by omega]; exact h4⟩
      · rw [if_neg c] at h3; exact absurd rfl h3
  rw [if_neg b] at h1 h2
  by_cases d : 97 ≤ P i ∧ P i ≤ 100
  · rw [if_pos d] at h2
    cases m with
    | zero => exact absurd (flt_0 (by omega) h2) (by decide)
    | succ m =>
      obtain ⟨h3, h4⟩ := flt_s (by omega) h2
      have hs1 : stp 1 (P (i + 1)) = if 65 ≤ P (i + 1) ∧ P (i + 1) ≤ 70 then 2 else if 48 ≤ P (i + 1) ∧ P (i + 1) ≤ 57 then 4 else 6 := rfl
      rw [hs1] at h3 h4
      by_cases e : 65 ≤ P (i + 1) ∧ P (i + 1) ≤ 70
      · rw [if_pos e] at h4
        cases m with
        | zero => exact absurd (flt_0 (by omega) h4) (by decide)
        | succ m =>
          obtain ⟨h5, h6⟩ := flt_s (by omega) h4
          have hs2 : stp 2 (P (i + 1 + 1)) = if 49 ≤ P (i + 1 + 1) ∧ P (i + 1 + 1) ≤ 57 then 3 else 6 := rfl
          rw [hs2] at h5 h6
          by_cases f : 49 ≤ P (i + 1 + 1) ∧ P (i + 1 + 1) ≤ 57
          · rw [if_pos f] at h6
            cases m with
            | zero => exact absurd (flt_0 (by omega) h6) (by decide)
            | succ m =>
              obtain ⟨h7, h8⟩ := flt_s (by omega) h6
              have hs3 : stp 3 (P (i + 1 + 1 + 1)) = if 49 ≤ P (i + 1 + 1 + 1) ∧ P (i + 1 + 1 + 1) ≤ 57 then 0 else 6 := rfl
              rw [hs3] at h7 h8
              by_cases g : 49 ≤ P (i + 1 + 1 + 1) ∧ P (i + 1 + 1 + 1) ≤ 57
              · rw [if_pos g] at h8
                exact ⟨4, by omega, by omega, Or.inr (Or.inr (Or.inl ⟨rfl, d, e, f, g⟩)), by rw [show m + 1 + 1 + 1 + 1 - 4 = m by omega]; exact h8⟩
              · rw [if_neg g] at h7; exact absurd rfl h7
          · rw [if_neg f] at h5; exact absurd rfl h5
      rw [if_neg e] at h3 h4
      by_cases f : 48 ≤ P (i + 1) ∧ P (i + 1) ≤ 57
      · rw [if_pos f] at h4
        cases m with
        | zero => exact absurd (flt_0 (by omega) h4) (by decide)
        | succ m =>
          obtain ⟨h5, h6⟩ := flt_s (by omega) h4
          have hs4 : stp 4 (P (i + 1 + 1)) = if 97 ≤ P (i + 1 + 1) ∧ P (i + 1 + 1) ≤ 100 then 0 else 6 := rfl
          rw [hs4] at h5 h6
          by_cases g : 97 ≤ P (i + 1 + 1) ∧ P (i + 1 + 1) ≤ 100
          · rw [if_pos g] at h6
            exact ⟨3, by omega, by omega, Or.inr (Or.inr (Or.inr ⟨rfl, d, f, g⟩)), by rw [show m + 1 + 1 + 1 - 3 = m by omega]; exact h6⟩
          · rw [if_neg g] at h5; exact absurd rfl h5
      · rw [if_neg f] at h3; exact absurd rfl h3
  rw [if_neg d] at h1
  exact absurd rfl h1
/-! the class -/
def cf (ac ba wy pd fs : Int32) : List Value := [.ref 13, .int ac, .int ba, .int wy, .int pd, .int fs]
theorem sg_lifeD : ∀ c, c < 127 → f_X5_isLife (nI c - 65) = some (if 65 ≤ c ∧ c ≤ 70 then 1 else 0) := by decide +kernel
section ACT
variable {h : gi_H} {ac ba wy pd fs : Int32} {N : Nat → Nat} {ns : Nat} {sg : Nat → Nat}
theorem cf_rd (G : go h 12 1 (cf ac ba wy pd fs)) : gi_is h 12 1 = true ∧ gi_fR h 12 1 0 = some 13 ∧ gi_fI h 12 1 1 = some ac ∧ gi_fI h 12 1 2 = some ba ∧ gi_fI h 12 1 3 = some wy ∧ gi_fI h 12 1 4 = some pd ∧ gi_fI h 12 1 5 = some fs := ⟨go_is G, go_fR G rfl, go_fI G rfl, go_fI G rfl, go_fI G rfl, go_fI G rfl, go_fI G rfl⟩
theorem cf_w1 (G : go h 12 1 (cf ac ba wy pd fs)) (v : Int32) : ∃ h', gi_fp h 12 1 1 (.int v) = some h' ∧ go h' 12 1 (cf v ba wy pd fs) ∧ gfr [12] h h' := go_fp G _ (by simp [cf])
theorem cf_w2 (G : go h 12 1 (cf ac ba wy pd fs)) (v : Int32) : ∃ h', gi_fp h 12 1 2 (.int v) = some h' ∧ go h' 12 1 (cf ac v wy pd fs) ∧ gfr [12] h h' := go_fp G _ (by simp [cf])
theorem cf_w3 (G : go h 12 1 (cf ac ba wy pd fs)) (v : Int32) : ∃ h', gi_fp h 12 1 3 (.int v) = some h' ∧ go h' 12 1 (cf ac ba v pd fs) ∧ gfr [12] h h' := go_fp G _ (by simp [cf])
theorem cf_w4 (G : go h 12 1 (cf ac ba wy pd fs)) (v : Int32) : ∃ h', gi_fp h 12 1 4 (.int v) = some h' ∧ go h' 12 1 (cf ac ba wy v fs) ∧ gfr [12] h h' := go_fp G _ (by simp [cf])
theorem cf_w5 (G : go h 12 1 (cf ac ba wy pd fs)) (v : Int32) : ∃ h', gi_fp h 12 1 5 (.int v) = some h' ∧ go h' 12 1 (cf ac ba wy pd v) ∧ gfr [12] h h' := go_fp G _ (by simp [cf])
def crl : List Nat := 12 :: bkl 13
theorem die_facts {N : Nat → Nat} (I : inv N) {x : Nat} (hx : x < 6) : sp_end N x 10 ≤ N 10 ∧ (sp_sh (gu N 12 (N 12 ||| 2 ^ x)) x 12 = true ↔ N 10 - sp_end N x 10 < owe N (2 ^ x) 12) ∧ owe N (2 ^ x) 12 < 2 ^ 31 := by
  have I2 : inv (gu N 12 (N 12 ||| 2 ^ x)) := inv_ended I (or_lt (n := 6) I.2.2.2.2.1 (Nat.pow_lt_pow_right (by omega) hx))
  obtain ⟨o1, o2⟩ := sh_owe I2 x 12 (Nat.le_refl 12)
  have o3 := pays_10 (gu N 12 (N 12 ||| 2 ^ x)) x 12
  rw [gu_ne _ _ (by omega), owe_12] at o1 o2
  rw [gu_ne _ _ (by omega)] at o3
  have o4 : ∀ n, n ≤ 12 → owe N (2 ^ x) n ≤ 90 * n := by
    intro n
    induction n with
    | zero => intro _; exact Nat.le_refl _
    | succ n ih =>
      intro hn
      have := ih (by omega)
      obtain ⟨c, h1, h2⟩ := (I.2.2.2.2.2.2.2.1 n (by omega)).2.2.1
      show owe N (2 ^ x) n + _ ≤ _
      split <;> omega
  refine ⟨o3, ?_, Nat.lt_of_le_of_lt (o4 12 (Nat.le_refl 12)) (by decide)⟩
  rw [o2, decide_eq_true_eq]
  exact Iff.rfl
theorem c_die (G : go h 12 1 (cf ac ba wy pd fs)) (B : bk h 13 N ns sg) (I : inv N) {x : Nat} (hx : x < 6) : ∃ h', f_X1_tryFate h 12 (nI x) 120 = some (nI (sp_die N x).1, h') ∧ go h' 12 1 (cf ac ba wy (pd + nI (sp_die N x).2.2.1) (if fs = -6 ∧ (sp_die N x).2.2.2 = true then ac else fs)) ∧ bk h' 13 (sp_die N x).2.1 ns sg ∧ gfr crl h h' := by
  obtain ⟨g, g0, g1, g2, g3, g4, g5⟩ := cf_rd G
  obtain ⟨ri, r0, r1, -⟩ := bk_rd B
  have k12 : (12 : Nat) ∉ bkl 13 := by decide
  have m1 : ∀ j ∈ bkl 13, j ∈ crl := by decide
  have m2 : ∀ j ∈ [12], j ∈ crl := by decide
  unfold f_X1_tryFate
  rw [if_neg (by decide), if_neg (by decide), g0]
  simp only [Option.bind_some]
  rw [if_pos ri, n_one x (by omega), d_owed B I (Nat.pow_lt_pow_right (by omega) (by omega)), r1]
  simp only [Option.bind_some]
  unfold sp_die
  by_cases c : (N 12).testBit x = true
  · rw [if_pos c, d_endN B I hx c]
    simp only [Option.bind_some]
    rw [if_pos ri, g0]
    simp only [Option.bind_some]
    rw [r1, g4]
    simp only [Option.bind_some]
    rw [pk_sub (Nat.le_refl _), Nat.sub_self]
    obtain ⟨h1, e1, G1, f1⟩ := cf_w4 G (pd + nI 0)
    rw [e1]
    simp only [Option.bind_some]
    rw [if_neg (by decide), if_neg (by simp)]
    exact ⟨h1, rfl, G1, B.fr f1 (by decide), f1.mono m2⟩
  · rw [if_neg c]
    obtain ⟨o3, o2, o4⟩ := die_facts I hx
    obtain ⟨h1, e1, B1, f1⟩ := d_end B I hx (by simpa using c)
    rw [e1]
    simp only [Option.bind_some]
    generalize sp_sh (gu N 12 (N 12 ||| 2 ^ x)) x 12 = S at o2 ⊢
    generalize owe N (2 ^ x) 12 = W at o2 o4 ⊢
    generalize sp_end N x = E at o2 o3 B1 ⊢
    have G1 := G.fr f1 k12
    obtain ⟨q, q0, q1, q2, q3, q4, q5⟩ := cf_rd G1
    obtain ⟨si, s0, s1, -⟩ := bk_rd B1
    rw [if_pos ri, q0]
    simp only [Option.bind_some]
    rw [s1, q4]
    simp only [Option.bind_some]
    have i3 := I.2.2.1
    rw [pk_sub o3]
    obtain ⟨h2, e2, G2, f2⟩ := cf_w4 G1 (pd + nI (N 10 - E 10))
    have B2 := B1.fr f2 (by decide)
    rw [e2]
    simp only [Option.bind_some]
    rw [if_pos trivial, n_ifle _ _ rfl o4 (by omega)]
    have t1 := (cf_rd G2).2.2.1
    have t5 := (cf_rd G2).2.2.2.2.2.2
    rw [t5, t1]
    simp only [Option.bind_some]
    have F2 := (f1.mono m1).trans (f2.mono m2)
    by_cases d : W ≤ N 10 - E 10
    · rw [if_pos d, if_neg (fun z => by have := o2.mp z.2; omega)]
      exact ⟨h2, rfl, G2, B2, F2⟩
    · rw [if_neg d]
      by_cases e : fs = -6
      · rw [if_pos e, if_pos ⟨e, o2.mpr (by omega)⟩]
        obtain ⟨h3, e3, G3, f3⟩ := cf_w5 G2 ac
        rw [e3]
        exact ⟨h3, rfl, G3, B2.fr f3 (by decide), F2.trans (f3.mono m2)⟩
      · rw [if_neg e, if_neg (fun z => e z.1)]
        exact ⟨h2, rfl, G2, B2, F2⟩
end ACT
