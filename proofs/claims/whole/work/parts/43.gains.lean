/-! WHAT IS GAINED, told prices, bets -/
theorem t_loop {s t p : Nat} (hs : s ≤ 9) (ht : t ≤ 9) : ∀ (n o : Nat) (acc : Int32), o ≤ 10 → 10 - o < n → ∃ v, f_X5_tells_39 n (nI s) (nI t) (nI p) acc (nI o) = some v ∧ f_X6_tells_39 n (nI s) (nI t) (nI p) acc (nI o) = some v := by
  intro n
  induction n with
  | zero => intro o acc _ h; omega
  | succ n ih =>
    intro o acc ho hn
    unfold f_X5_tells_39 f_X6_tells_39 f_X6_tells_70
    rw [n_ifgt 9 9 rfl (by omega) (by decide), n_ifge 10 10 rfl (by omega) (by decide)]
    by_cases c : o = 10
    · rw [if_pos (by omega), if_pos (by omega)]; exact ⟨acc, rfl, rfl⟩
    · rw [if_neg (by omega), if_neg (by omega), n_10m, price_eq (by omega) (by omega) ht, x6_price_eq (by omega) (by omega) ht]
      simp only [Option.bind_some]
      rw [nI_1, Int32.or_zero]
      split
      · exact ih (o + 1) _ (by omega) (by omega)
      · exact ih (o + 1) _ (by omega) (by omega)
theorem k_tells (x y z : Int32) : RR (f_X5_tells 1 x y z) (f_X6_tells 31 x y z) := by
  unfold RR f_X5_tells f_X6_tells
  rcases ar_in 1 9 1 9 rfl rfl (by decide) (by decide) x with ⟨n1, n2⟩ | ⟨s, hs0, hs, rfl, n1, n2⟩
  · rw [n1, n2]; exact ⟨-2, rfl, rfl⟩
  rw [n1, n2, Option.bind_some, if_neg i1_ne0, Option.bind_some, if_neg i1_ne0]
  rcases ar_in 1 9 1 9 rfl rfl (by decide) (by decide) y with ⟨n1, n2⟩ | ⟨t, ht0, ht, rfl, n1, n2⟩
  · rw [n1, n2]; exact ⟨-2, rfl, rfl⟩
  rw [n1, n2, Option.bind_some, if_neg i1_ne0, Option.bind_some, if_neg i1_ne0]
  rcases ar_in 0 99 0 99 rfl rfl (by decide) (by decide) z with ⟨n1, n2⟩ | ⟨p, hp0, hp, rfl, n1, n2⟩
  · rw [n1, n2]; exact ⟨-2, rfl, rfl⟩
  rw [n1, n2, Option.bind_some, if_neg i1_ne0, Option.bind_some, if_neg i1_ne0]
  have hh := t_loop (p := p) hs ht gi_F 1 0 (by omega) (by decide)
  rw [show nI 1 = (1 : Int32) from rfl] at hh
  exact hh
/-! bets -/
def chv (n k : Nat) : Nat := match f_X5_choices (nI n) (nI k) with
  | some x => x.toNatClampNeg
  | none => 1000000000
theorem ch_ok : ∀ n, n < 13 → ∀ k, k < n + 1 → f_X5_choices (nI n) (nI k) = some (lN (chv n k)) ∧ chv n k ≤ 924 := by decide +kernel
theorem b_loop (a b t p : Int32) : ∀ (n : Nat) (w : Int64) (i : Int32), f_X6_bets_49 n a b t p w i = (f_X5_choices_5 n a b w i).bind (f_X6_bets_77 a b t p) := by
  intro n
  induction n with
  | zero => intro w i; rfl
  | succ n ih =>
    intro w i
    unfold f_X6_bets_49 f_X5_choices_5
    split
    · rfl
    · split
      · rfl
      · exact ih _ _
theorem k_bets (x y z p : Int32) : RR (f_X5_bets 1 x y z p) (f_X6_bets 31 x y z p) := by
  unfold RR f_X5_bets f_X6_bets
  rcases ar_in 0 12 0 12 rfl rfl (by decide) (by decide) x with ⟨n1, n2⟩ | ⟨n, -, hn, rfl, n1, n2⟩
  · rw [n1, n2]; exact ⟨-1000000000000000002, rfl, rfl⟩
  rw [n1, n2]
  simp only [Option.bind_some]
  rw [if_neg i1_ne0, if_neg i1_ne0]
  rcases ar_in 0 (nI n) 0 n rfl rfl (by decide) (by omega) y with ⟨n1, n2⟩ | ⟨k, -, hk, rfl, n1, n2⟩
  · rw [n1, n2]; exact ⟨-1000000000000000002, rfl, rfl⟩
  rw [n1, n2]
  simp only [Option.bind_some]
  rw [if_neg i1_ne0, if_neg i1_ne0]
  rcases ar_in 0 10 0 10 rfl rfl (by decide) (by decide) z with ⟨n1, n2⟩ | ⟨t, ht0, ht, rfl, n1, n2⟩
  · rw [n1, n2]; exact ⟨-1000000000000000002, rfl, rfl⟩
  rw [n1, n2]
  simp only [Option.bind_some]
  rw [if_neg i1_ne0, if_neg i1_ne0]
  rcases ar_part p with ⟨n1, n2⟩ | ⟨q, hq, rfl, n1, n2⟩
  · rw [n1, n2]; exact ⟨-1000000000000000002, rfl, rfl⟩
  rw [n1, n2]
  simp only [Option.bind_some]
  obtain ⟨e1, e2⟩ := ch_ok n (by omega) k (by omega)
  rw [if_neg i1_ne0, if_neg i1_ne0, b_loop, show f_X5_choices_5 gi_F (nI n) (nI k) 1 1 = some (lN (chv n k)) from e1, e1]
  simp only [Option.bind_some]
  unfold f_X6_bets_77
  rw [x6_pw, x6_pw, x6_pw, n_10s ht, n_10L ht, nI_l (by omega), pk_sub hk, pw_eq _ (by omega), pw_eq _ (by omega), pw10 (by omega)]
  simp only [Option.bind_some]
  have h1 : t ^ k ≤ 10 ^ k := Nat.pow_le_pow_left ht k
  have h2 : (10 - t) ^ (n - k) ≤ 10 ^ (n - k) := Nat.pow_le_pow_left (Nat.sub_le _ _) _
  have h3 : 10 ^ k * 10 ^ (n - k) = 10 ^ n := by rw [← Nat.pow_add]; congr 1; omega
  have h4 : 10 ^ n ≤ 10 ^ 12 := Nat.pow_le_pow_right (by omega) hn
  have h5 : t ^ k * (10 - t) ^ (n - k) ≤ 10 ^ 12 := by
    have := Nat.mul_le_mul h1 h2
    omega
  have h6 : chv n k * t ^ k * (10 - t) ^ (n - k) ≤ 924 * 10 ^ 12 := by
    rw [Nat.mul_assoc]
    exact Nat.mul_le_mul e2 h5
  have h7 : (924 * 10 ^ 12 : Nat) < 2 ^ 63 := by decide
  rw [lN_mul, lN_mul, c_low (by omega) (p10_pos n) (by omega) hq, m_low (by omega) (p10_pos n) (by omega) hq]
  exact ⟨_, rfl, rfl⟩
/-! gains -/
/-- what b gains by k from the policies 0 to n - 1, the policy o being w's -/
def gnW (N : Nat → Nat) (b k o w : Nat) : Nat → Nat
  | 0 => 0
  | n + 1 => gnW N b k o w n + if (N 14).testBit n = true ∧ N (16 + 4 * n) = k ∧ (if n = o then w else N (15 + 4 * n)) = b then N (17 + 4 * n) else 0
def grp (N : Nat → Nat) (b k : Nat) : Nat → Nat
  | 0 => 0
  | n + 1 => if (N 14).testBit n = true ∧ N (15 + 4 * n) = b ∧ N (16 + 4 * n) = k then grp N b k n ||| 2 ^ n else grp N b k n
def sm (N : Nat → Nat) (m : Nat) : Nat → Nat
  | 0 => 0
  | n + 1 => sm N m n + if m.testBit n = true then N (17 + 4 * n) else 0
theorem grp_bit (N : Nat → Nat) (b k : Nat) : ∀ n q, (grp N b k n).testBit q = decide (q < n ∧ (N 14).testBit q = true ∧ N (15 + 4 * q) = b ∧ N (16 + 4 * q) = k) := by
  intro n
  induction n with
  | zero => intro q; simp [grp]
  | succ n ih =>
    intro q
    unfold grp
    by_cases c : (N 14).testBit n = true ∧ N (15 + 4 * n) = b ∧ N (16 + 4 * n) = k
    · rw [if_pos c, Nat.testBit_or, ih, Nat.testBit_two_pow]
      by_cases e : n = q
      · subst e; simp [c]
      · rw [decide_eq_false e, Bool.or_false]
        congr 1
        apply propext
        constructor
        · intro z; exact ⟨by omega, z.2⟩
        · intro z; exact ⟨by omega, z.2⟩
    · rw [if_neg c, ih]
      congr 1
      apply propext
      constructor
      · intro z; exact ⟨by omega, z.2⟩
      · intro z
        refine ⟨?_, z.2⟩
        by_cases e : q = n
        · subst e; exact absurd z.2 c
        · omega
theorem grp_lt (N : Nat → Nat) (b k : Nat) : ∀ n, grp N b k n < 2 ^ n := by
  intro n
  induction n with
  | zero => exact Nat.one_pos
  | succ n ih =>
    have h1 : 2 ^ n < 2 ^ (n + 1) := Nat.pow_lt_pow_right (by omega) (by omega)
    unfold grp
    split
    · exact or_lt (by omega) h1
    · omega
theorem sm_grp (N : Nat → Nat) (b k : Nat) : ∀ n, n ≤ 12 → sm N (grp N b k 12) n = gnW N b k 99 0 n := by
  intro n
  induction n with
  | zero => intro _; rfl
  | succ n ih =>
    intro hn
    show sm N (grp N b k 12) n + _ = gnW N b k 99 0 n + _
    rw [ih (by omega), grp_bit, if_neg (show ¬ n = 99 by omega)]
    congr 1
    by_cases c : (N 14).testBit n = true ∧ N (15 + 4 * n) = b ∧ N (16 + 4 * n) = k
    · rw [if_pos (decide_eq_true ⟨by omega, c⟩), if_pos ⟨c.1, c.2.2, c.2.1⟩]
    · rw [if_neg (fun z => c (decide_eq_true_eq.mp z).2), if_neg (fun z => c ⟨z.1, z.2.2, z.2.1⟩)]
section GAINS
variable {h : gi_H} {c0 : va_E} {N : Nat → Nat} {ns : Nat} {sg : Nat → Nat} {np : Nat} {P : Nat → Nat} {im : Nat → gi_Im} {IM : Nat → Nat}
theorem d_grp {q : Nat} (H : bk h q N ns sg) (I : inv N) {b k : Nat} (hb : b < 2 ^ 31) (hk : k < 2 ^ 31) : f_X0_groupOf h q (nI b) (nI k) = some (nI (grp N b k 12)) := by
  obtain ⟨i1, i2, i3, i4, i5, i6, i7, i8, i9⟩ := I
  obtain ⟨ri, r0, r1, r2, r3, r4, r5, q6, q7, q8, q9, q10, q11, q12, q13, q14, a6, a7, a8, a9, a10, a11, -⟩ := bk_rd H
  have st : ∀ n p, p ≤ 12 → 12 - p < n → f_X0_groupOf_5 h n q (nI b) (nI k) (nI (grp N b k p)) (nI p) = some (nI (grp N b k 12)) := by
    intro n
    induction n with
    | zero => intro p _ hn; omega
    | succ n ih =>
      intro p hp hn
      unfold f_X0_groupOf_5
      rw [n_ifge 12 12 rfl (by omega) (by decide)]
      rcases Nat.lt_or_ge p 12 with hlt | hge
      · have hs : grp N b k (p + 1) = if (N 14).testBit p = true ∧ N (15 + 4 * p) = b ∧ N (16 + 4 * p) = k then grp N b k p ||| 2 ^ p else grp N b k p := rfl
        obtain ⟨j1, j2, -⟩ := i8 p hlt
        rw [if_neg (by omega), if_pos ri, d_stands H i7 hlt, q8, q9]
        simp only [Option.bind_some]
        rw [a8 p hlt, a9 p hlt]
        simp only [Option.bind_some]
        rw [n_ifb, n_ifc (nI b) b rfl (by omega) hb, n_ifc (nI k) k rfl (by omega) hk, n_set (by omega), nI_1]
        by_cases c1 : (N 14).testBit p = true
        · by_cases c2 : N (15 + 4 * p) = b
          · by_cases c3 : N (16 + 4 * p) = k
            · rw [if_pos c1, if_pos c2, if_pos c3]
              rw [if_pos ⟨c1, c2, c3⟩] at hs
              rw [← hs]
              exact ih (p + 1) (by omega) (by omega)
            · rw [if_pos c1, if_pos c2, if_neg c3]
              rw [if_neg (fun z => c3 z.2.2)] at hs
              rw [← hs]
              exact ih (p + 1) (by omega) (by omega)
          · rw [if_pos c1, if_neg c2]
            rw [if_neg (fun z => c2 z.2.1)] at hs
            rw [← hs]
            exact ih (p + 1) (by omega) (by omega)
        · rw [if_neg c1]
          rw [if_neg (fun z => c1 z.1)] at hs
          rw [← hs]
          exact ih (p + 1) (by omega) (by omega)
      · rw [if_pos (by omega), show p = 12 by omega]
  exact st gi_F 0 (by omega) (by decide)
theorem d_sum {q : Nat} (H : bk h q N ns sg) {m : Nat} (hm : m < 2 ^ 31) : f_X0_sumOf h q (nI m) = some (nI (sm N m 12)) := by
  obtain ⟨ri, r0, r1, r2, r3, r4, r5, q6, q7, q8, q9, q10, q11, q12, q13, q14, a6, a7, a8, a9, a10, a11, -⟩ := bk_rd H
  have st : ∀ n p, p ≤ 12 → 12 - p < n → f_X0_sumOf_4 h n q (nI m) (nI (sm N m p)) (nI p) = some (nI (sm N m 12)) := by
    intro n
    induction n with
    | zero => intro p _ hn; omega
    | succ n ih =>
      intro p hp hn
      unfold f_X0_sumOf_4
      rw [n_ifge 12 12 rfl (by omega) (by decide)]
      rcases Nat.lt_or_ge p 12 with hlt | hge
      · have hs : sm N m (p + 1) = sm N m p + if m.testBit p = true then N (17 + 4 * p) else 0 := rfl
        rw [if_neg (by omega), q10]
        simp only [Option.bind_some]
        rw [a10 p hlt]
        simp only [Option.bind_some]
        rw [n_bit hm (by omega), n_ifb, nI_add, nI_1]
        by_cases c1 : m.testBit p = true
        · rw [if_pos c1] at hs ⊢
          rw [← hs]
          exact ih (p + 1) (by omega) (by omega)
        · rw [if_neg c1] at hs ⊢
          rw [show sm N m p = sm N m (p + 1) by rw [hs]; rfl]
          exact ih (p + 1) (by omega) (by omega)
      · rw [if_pos (by omega), show p = 12 by omega]
  exact st gi_F 0 (by omega) (by decide)
theorem d_gains {q : Nat} (H : bk h q N ns sg) (I : inv N) {b k : Nat} (hb : b < 2 ^ 31) (hk : k < 2 ^ 31) : f_X0_gainsOf h q (nI b) (nI k) = some (nI (gnW N b k 99 0 12)) := by
  unfold f_X0_gainsOf
  have hl := grp_lt N b k 12
  rw [if_pos (bk_rd H).1, d_grp H I hb hk]
  simp only [Option.bind_some]
  rw [if_pos (bk_rd H).1, d_sum H (by omega), sm_grp N b k 12 (Nat.le_refl _)]
  rfl
theorem m_gains {a : Int32} {c : Bool} {d e f : Int32} {u : Int64} (G : go h 31 6 (mf ns np a c d e f u)) (B : ga h 32 63 N) (I : inv N) {b k w o : Nat} {O : Int32} (hb : b < 2 ^ 31) (hk : k < 2 ^ 31) (hw : w < 2 ^ 31) (hO : ∀ p, p < 12 → (nI p = O ↔ p = o)) : f_X6_gainsBy h 31 (nI b) (nI k) O (nI w) = some (nI (gnW N b k o w 12)) := by
  obtain ⟨i1, i2, i3, i4, i5, i6, i7, i8, i9⟩ := I
  have r0 := (mf_rd G).2.1
  have z : ∀ v : Int32, v + 0 = v := fun v => Int32.add_zero v
  have st : ∀ n p, p ≤ 12 → 12 - p < n → f_X6_gainsBy_6 h n 31 (nI b) (nI k) O (nI w) (nI (gnW N b k o w p)) (nI p) = some (nI (gnW N b k o w 12)) := by
    intro n
    induction n with
    | zero => intro p _ hn; omega
    | succ n ih =>
      intro p hp hn
      unfold f_X6_gainsBy_6 f_X6_gainsBy_36
      rw [n_ifge 12 12 rfl (by omega) (by decide)]
      rcases Nat.lt_or_ge p 12 with hlt | hge
      · have hs : gnW N b k o w (p + 1) = gnW N b k o w p + if (N 14).testBit p = true ∧ N (16 + 4 * p) = k ∧ (if p = o then w else N (15 + 4 * p)) = b then N (17 + 4 * p) else 0 := rfl
        obtain ⟨j1, j2, -⟩ := i8 p hlt
        have ih1 := ih (p + 1) (by omega) (by omega)
        rw [if_neg (by omega), r0]
        simp only [Option.bind_some]
        rw [ga_rl B (I := 14) (i := 14) rfl (by omega) (by decide), ga_rl B (n_15 p) (by omega) (by decide), ga_rl B (n_16 p) (by omega) (by decide), ga_rl B (n_17 p) (by omega) (by decide)]
        simp only [Option.bind_some]
        rw [x6_has (by omega) (by omega)]
        simp only [Option.bind_some]
        rw [n_ifb, n_ifc (nI k) k rfl (by omega) hk, n_ifc (nI b) b rfl hw hb, n_ifc (nI b) b rfl (by omega) hb, z, nI_add, nI_1, n_ifb, n_ifc (nI k) k rfl (by omega) hk]
        by_cases c1 : (N 14).testBit p = true
        · by_cases c2 : N (16 + 4 * p) = k
          · by_cases c3 : p = o
            · rw [if_pos ((hO p hlt).mpr c3), if_pos c1, if_pos c2]
              rw [if_pos c3] at hs
              by_cases c4 : w = b
              · rw [if_pos ⟨c1, c2, c4⟩] at hs
                rw [if_pos c4, ← hs]; exact ih1
              · rw [if_neg (fun z => c4 z.2.2)] at hs
                rw [if_neg c4, show gnW N b k o w p = gnW N b k o w (p + 1) by rw [hs]; rfl]; exact ih1
            · rw [if_neg (fun z => c3 ((hO p hlt).mp z)), if_pos c1, if_pos c2]
              rw [if_neg c3] at hs
              by_cases c4 : N (15 + 4 * p) = b
              · rw [if_pos ⟨c1, c2, c4⟩] at hs
                rw [if_pos c4, ← hs]; exact ih1
              · rw [if_neg (fun z => c4 z.2.2)] at hs
                rw [if_neg c4, show gnW N b k o w p = gnW N b k o w (p + 1) by rw [hs]; rfl]; exact ih1
          · rw [if_neg (fun z => c2 z.2.1)] at hs
            rw [if_pos c1, if_pos c1, if_neg c2, if_neg c2, ite_self, show gnW N b k o w p = gnW N b k o w (p + 1) by rw [hs]; rfl]; exact ih1
        · rw [if_neg (fun z => c1 z.1)] at hs
          rw [if_neg c1, if_neg c1, ite_self, show gnW N b k o w p = gnW N b k o w (p + 1) by rw [hs]; rfl]; exact ih1
      · rw [if_pos (by omega), show p = 12 by omega]
  exact st gi_F 0 (by omega) (by decide)
theorem no_odd : ∀ p, p < 12 → (nI p = (-6 : Int32) ↔ p = 99) := fun p hp => ⟨fun z => absurd z (n_m6 (by omega)), fun z => by omega⟩
theorem k_gains (K : Core h c0 N ns sg np P im IM) (S : Scr h ns np) (x y : Int32) : RR (f_X5_gains h 1 x y) (f_X6_gains h 31 x y) := by
  obtain ⟨-, -, -, -, -, ⟨a, b, c, d, e, u, G⟩, -⟩ := id S
  obtain ⟨ci, c1, -⟩ := cls_rd K
  unfold RR f_X5_gains f_X6_gains
  rcases ar_buyer x with ⟨l1, l2⟩ | ⟨b, hb, rfl, l1, l2⟩
  · rw [l1, l2]; exact ⟨-1, rfl, rfl⟩
  rw [l1, l2]
  simp only [Option.bind_some]
  rw [if_neg i1_ne0, if_neg i1_ne0]
  rcases ar_life y with ⟨l1, l2⟩ | ⟨k, hk, rfl, l1, l2⟩
  · rw [l1, l2]; exact ⟨-1, rfl, rfl⟩
  rw [l1, l2, c1]
  simp only [Option.bind_some]
  rw [if_neg i1_ne0, if_neg i1_ne0, if_pos (bk_rd K.bok).1, if_pos (go_is G), d_gains K.bok K.iv (by omega) (by omega), show f_X6_gainsBy h 31 (nI b) (nI k) (-6) 0 = _ from m_gains (w := 0) G K.mbk K.iv (by omega) (by omega) (by decide) no_odd]
  exact ⟨_, rfl, rfl⟩
theorem k_worth (K : Core h c0 N ns sg np P im IM) (S : Scr h ns np) (x : Int32) : RR (f_X5_worth h 1 x) (f_X6_worth h 31 x) := by
  obtain ⟨-, -, -, -, -, ⟨a, b, c, d, e, u, G⟩, -⟩ := id S
  obtain ⟨ci, c1, -⟩ := cls_rd K
  unfold RR f_X5_worth f_X6_worth
  rcases ar_buyer x with ⟨l1, l2⟩ | ⟨b, hb, rfl, l1, l2⟩
  · rw [l1, l2]; exact ⟨-1, rfl, rfl⟩
  rw [l1, l2]
  simp only [Option.bind_some]
  rw [if_neg i1_ne0, if_neg i1_ne0]
  have st : ∀ n k (f m : Int32), k ≤ 6 → 6 - k < n → ∃ v, f_X5_worth_17 h n 1 (nI b) f m (nI k) = some v ∧ f_X6_worth_17 h n 31 (nI b) f m (nI k) = some v := by
    intro n
    induction n with
    | zero => intro k f m _ hn; omega
    | succ n ih =>
      intro k f m hk hn
      unfold f_X5_worth_17 f_X6_worth_17 f_X6_worth_48
      rw [n_ifge 6 6 rfl (by omega) (by decide), n_ifge 6 6 rfl (by omega) (by decide)]
      rcases Nat.lt_or_ge k 6 with hlt | hge
      · rw [if_neg (by omega), if_neg (by omega), c1]
        simp only [Option.bind_some]
        rw [if_pos (bk_rd K.bok).1, if_pos (go_is G), d_gains K.bok K.iv (by omega) (by omega), show f_X6_gainsBy h 31 (nI b) (nI k) (-6) 0 = _ from m_gains (w := 0) G K.mbk K.iv (by omega) (by omega) (by decide) no_odd]
        simp only [Option.bind_some]
        rw [nI_1]
        split
        · exact ih (k + 1) _ _ (by omega) (by omega)
        · exact ih (k + 1) _ _ (by omega) (by omega)
      · rw [if_pos (by omega), if_pos (by omega)]; exact ⟨f, rfl, rfl⟩
  exact st gi_F 0 _ _ (by omega) (by decide)
end GAINS
