/-! RUIN, both sides -/
section RUIN
variable {h : gi_H} {c0 : va_E} {N : Nat → Nat} {ns : Nat} {sg : Nat → Nat} {np : Nat} {P : Nat → Nat} {im : Nat → gi_Im} {IM : Nat → Nat} {t : Nat}
theorem d_endings {q : Nat} (H : bk h q N ns sg) (I : inv N) {k : Nat} (hk : k < 6) (ht : t ≤ 9) : f_X0_endingsOf h q (nI k) (nI t) = some (lN (ee N t k)) := by
  have i5 := I.2.2.2.2.1
  have j1 := I.1 k hk
  obtain ⟨ri, r0, r1, r2, r3, r4, r5, q6, q7, q8, q9, q10, q11, q12, q13, q14, a6, a7, -⟩ := bk_rd H
  unfold f_X0_endingsOf ee
  rw [life_in hk, Option.bind_some, if_neg i1_ne0, if_pos ri, d_ended H i5 (by omega), q6]
  simp only [Option.bind_some]
  rw [a6 k hk]
  simp only [Option.bind_some]
  rw [endings_eq (by omega) (by omega), n_ifb]
  cases (N 12).testBit k <;> rfl
theorem d_ways {q : Nat} (H : bk h q N ns sg) (I : inv N) (ht : t ≤ 9) {S : Nat} (hS : S < 2 ^ 31) : f_X0_waysOf h q (nI S) (nI t) = some (lN (wy N t S 6)) := by
  have st : ∀ n k, k ≤ 6 → 6 - k < n → f_X0_waysOf_5 h n q (nI S) (nI t) (lN (wy N t S k)) (nI k) = some (lN (wy N t S 6)) := by
    intro n
    induction n with
    | zero => intro k _ hn; omega
    | succ n ih =>
      intro k hk hn
      unfold f_X0_waysOf_5 f_X0_waysOf_46
      rw [n_ifge 6 6 rfl (by omega) (by decide)]
      rcases Nat.lt_or_ge k 6 with hlt | hge
      · have ih1 := ih (k + 1) (by omega) (by omega)
        have hs : wy N t S (k + 1) = wy N t S k * wf N t S k := rfl
        unfold wf at hs
        rw [if_neg (by omega), if_pos (bk_rd H).1, d_endings H I hlt ht, pw10 (by omega)]
        simp only [Option.bind_some]
        rw [n_bit hS (by omega), n_ifb, lN_sub (ee_le N t k), lN_mul, lN_mul, nI_1]
        by_cases c : S.testBit k = true
        · rw [if_pos c] at hs ⊢
          rw [← hs]; exact ih1
        · rw [if_neg c] at hs ⊢
          rw [← hs]; exact ih1
      · rw [if_pos (by omega), show k = 6 by omega]
  exact st gi_F 0 (by omega) (by decide)
theorem d_mean {q : Nat} (H : bk h q N ns sg) (I : inv N) (ht : t ≤ 9) : f_X0_meanOwed h q (nI t) = some (lN (msum N t 6)) := by
  have st : ∀ n k, k ≤ 6 → 6 - k < n → f_X0_meanOwed_5 h n q (nI t) (lN (msum N t k)) (nI k) = some (lN (msum N t 6)) := by
    intro n
    induction n with
    | zero => intro k _ hn; omega
    | succ n ih =>
      intro k hk hn
      unfold f_X0_meanOwed_5
      rw [n_ifge 6 6 rfl (by omega) (by decide)]
      rcases Nat.lt_or_ge k 6 with hlt | hge
      · have ih1 := ih (k + 1) (by omega) (by omega)
        have hs : msum N t (k + 1) = msum N t k + al N k 12 * ee N t k := rfl
        have hp : 2 ^ k < 2 ^ 31 := Nat.pow_lt_pow_right (by omega) (by omega)
        have ha := al_le I k 12 (Nat.le_refl _)
        rw [if_neg (by omega), if_pos (bk_rd H).1, n_one k (by omega), d_owed H I hp, owe_al I hlt]
        simp only [Option.bind_some]
        rw [if_pos (bk_rd H).1, d_endings H I hlt ht]
        simp only [Option.bind_some]
        rw [nI_l (by omega), lN_mul, lN_add, nI_1, ← hs]
        exact ih1
      · rw [if_pos (by omega), show k = 6 by omega]
  exact st gi_F 0 (by omega) (by decide)
theorem c_ruin (K : Core h c0 N ns sg np P im IM) (ht : t ≤ 3) {p : Nat} : ∀ n m, m ≤ 64 → 64 - m < n → f_X5_ruin_60 h n 1 (nI t) (nI p) (lN (rsum N t m)) (nI m) = f_X5_ruin_107 h (nI t) (nI p) (lN (rsum N t 64)) := by
  obtain ⟨ci, c1, -⟩ := cls_rd K
  have i3 := K.iv.2.2.1
  intro n
  induction n with
  | zero => intro m _ hn; omega
  | succ n ih =>
    intro m hm hn
    unfold f_X5_ruin_60
    rw [n_ifge 64 64 rfl (by omega) (by decide)]
    rcases Nat.lt_or_ge m 64 with hlt | hge
    · have ih1 := ih (m + 1) (by omega) (by omega)
      have hs : rsum N t (m + 1) = rsum N t m + if owe N m 12 ≤ N 10 then 0 else wy N t m 6 := rfl
      have how : owe N m 12 ≤ 90 * 12 := by
        have : ∀ n, n ≤ 12 → owe N m n ≤ 90 * n := by
          intro n
          induction n with
          | zero => intro _; exact Nat.le_refl _
          | succ n ih =>
            intro hn
            have := ih (by omega)
            obtain ⟨c, h1, h2⟩ := (K.iv.2.2.2.2.2.2.2.1 n (by omega)).2.2.1
            show owe N m n + _ ≤ _
            split <;> omega
        exact this 12 (Nat.le_refl _)
      rw [if_neg (by omega), c1]
      simp only [Option.bind_some]
      rw [if_pos (bk_rd K.bok).1, d_owed K.bok K.iv (by omega), (bk_rd K.bok).2.2.1, d_ways K.bok K.iv (by omega) (by omega)]
      simp only [Option.bind_some]
      generalize owe N m 12 = W at how hs ⊢
      rw [n_ifle _ (N 10) rfl (by omega) (by omega), lN_add, nI_1]
      by_cases c : W ≤ N 10
      · rw [if_pos c] at hs ⊢
        rw [show rsum N t m = rsum N t (m + 1) by rw [hs]; rfl]; exact ih1
      · rw [if_neg c] at hs ⊢
        rw [if_pos (bk_rd K.bok).1, ← hs]; exact ih1
    · rw [if_pos (by omega), show m = 64 by omega]
variable {a : Int32} {b : Bool} {c d e : Int32} {u : Int64}
theorem m_all (G : go h 31 6 (mf ns np a b c d e u)) (B : ga h 32 63 N) (I : inv N) {k : Nat} (hk : k < 6) : f_X6_allOn h 31 (nI k) = some (nI (al N k 12)) := by
  have st : ∀ n q s, q < 4 → f_X6_allOn_4 h (n + 1) 31 (nI k) (nI s) (nI q) = f_X6_allOn_4 h n 31 (nI k) (nI (s + gnW N q k 99 0 12)) (nI (q + 1)) := by
    intro n q s hq
    conv => lhs; unfold f_X6_allOn_4
    rw [n_ifge 4 4 rfl (by omega) (by decide), if_neg (by omega), if_pos (go_is G), show f_X6_gainsBy h 31 (nI q) (nI k) (-6) 0 = _ from m_gains (w := 0) G B I (by omega) (by omega) (by decide) no_odd]
    simp only [Option.bind_some]
    rw [nI_add, nI_1]
  show f_X6_allOn_4 h 5000 31 (nI k) (nI 0) (nI 0) = _
  rw [st 4999 0 _ (by omega), st 4998 1 _ (by omega), st 4997 2 _ (by omega), st 4996 3 _ (by omega)]
  conv => lhs; unfold f_X6_allOn_4
  rw [n_ifge 4 4 rfl (by omega) (by decide), if_pos (by omega), Nat.zero_add]
  rfl
theorem m_mean (G : go h 31 6 (mf ns np a b c d e u)) (B : ga h 32 63 N) (I : inv N) (ht : t ≤ 9) {p : Int32} : ∀ n k, k ≤ 6 → 6 - k < n → f_X6_ruin_54 h n 31 (nI t) p (lN (10 ^ t)) (lN (msum N t k)) (nI k) = f_X6_ruin_118 h p (lN (10 ^ t)) (lN (msum N t 6)) := by
  have i5 := I.2.2.2.2.1
  obtain ⟨r, r0, -⟩ := mf_rd G
  intro n
  induction n with
  | zero => intro k _ hn; omega
  | succ n ih =>
    intro k hk hn
    unfold f_X6_ruin_54 f_X6_ruin_109
    rw [n_ifge 6 6 rfl (by omega) (by decide)]
    rcases Nat.lt_or_ge k 6 with hlt | hge
    · have ih1 := ih (k + 1) (by omega) (by omega)
      have hs : msum N t (k + 1) = msum N t k + al N k 12 * ee N t k := rfl
      have ha := al_le I k 12 (Nat.le_refl _)
      have j1 := I.1 k hlt
      rw [if_neg (by omega), r0, if_pos r, m_all G B I hlt]
      simp only [Option.bind_some]
      rw [ga_rl B (I := 12) (i := 12) rfl (by omega) (by decide), ga_rd B (by omega) (by decide)]
      simp only [Option.bind_some]
      rw [x6_has (by omega) (by omega), n_10L (by omega), x6_pw, pw_eq _ (by omega)]
      simp only [Option.bind_some]
      rw [n_ifb, lN_sub (pow_le10 (N k) t), nI_l (by omega), lN_mul, lN_add, nI_1]
      unfold ee at hs
      by_cases cc : (N 12).testBit k = true
      · rw [if_pos cc, Nat.mul_zero] at hs
        rw [if_pos cc, show lN (msum N t k) + 0 = lN (msum N t k) from Int64.add_zero _, show msum N t k = msum N t (k + 1) by rw [hs]; rfl]
        exact ih1
      · rw [if_neg cc] at hs
        rw [if_neg cc, show 10 ^ t - (10 - N k) ^ t = en (N k) t from rfl, ← hs]
        exact ih1
    · rw [if_pos (by omega), show k = 6 by omega]
theorem m_set (G : go h 31 6 (mf ns np a b c d e u)) (B : ga h 32 63 N) (I : inv N) (ht : t ≤ 9) {S : Nat} (hS : S < 2 ^ 31) (p : Int32) (s lo : Int64) (K : Nat → Int32 → Int32 → Int64 → Int64 → Int64 → Int32 → Option Int64) : ∀ n k, k ≤ 6 → 6 - k < n → f_X6_ruin_169 h K n 31 (nI t) p (lN (10 ^ t)) s lo (nI S) (lN (wy N t S k)) (nI (pay N S 12 k)) (nI k) = f_X6_ruin_270 h K 31 (nI t) p (lN (10 ^ t)) s lo (nI S) (lN (wy N t S 6)) (nI (pay N S 12 6)) := by
  have i5 := I.2.2.2.2.1
  obtain ⟨r, r0, -⟩ := mf_rd G
  intro n
  induction n with
  | zero => intro k _ hn; omega
  | succ n ih =>
    intro k hk hn
    unfold f_X6_ruin_169 f_X6_ruin_212 f_X6_ruin_236
    rw [n_ifge 6 6 rfl (by omega) (by decide)]
    rcases Nat.lt_or_ge k 6 with hlt | hge
    · have ih1 := ih (k + 1) (by omega) (by omega)
      have hs : wy N t S (k + 1) = wy N t S k * wf N t S k := rfl
      have hp : pay N S 12 (k + 1) = pay N S 12 k + if S.testBit k then al N k 12 else 0 := rfl
      have j1 := I.1 k hlt
      rw [if_neg (by omega), r0, if_pos r, m_all G B I hlt]
      simp only [Option.bind_some]
      rw [ga_rl B (I := 12) (i := 12) rfl (by omega) (by decide), ga_rd B (by omega) (by decide)]
      simp only [Option.bind_some]
      rw [x6_has (by omega) (by omega), x6_has hS (by omega), n_10L (by omega), x6_pw, pw_eq _ (by omega)]
      simp only [Option.bind_some]
      rw [nI_1, nI_add, show nI (pay N S 12 k) + 0 = nI (pay N S 12 k) from Int32.add_zero _]
      simp only [n_ifb]
      unfold wf ee at hs
      by_cases cc : (N 12).testBit k = true
      · simp only [if_pos cc] at hs ⊢
        by_cases cs : S.testBit k = true
        · simp only [if_pos cs] at hs hp ⊢
          rw [if_pos r, lN_sub (Nat.le_refl _), Nat.sub_self, lN_mul, ← hs, ← hp]
          exact ih1
        · simp only [if_neg cs] at hs hp ⊢
          rw [Nat.sub_zero] at hs
          rw [lN_mul, ← hs, show pay N S 12 k = pay N S 12 (k + 1) by rw [hp]; rfl]
          exact ih1
      · simp only [if_neg cc] at hs ⊢
        have hle := pow_le10 (N k) t
        by_cases cs : S.testBit k = true
        · simp only [if_pos cs] at hs hp ⊢
          rw [if_pos r, lN_sub hle, lN_mul, show 10 ^ t - (10 - N k) ^ t = en (N k) t from rfl, ← hs, ← hp]
          exact ih1
        · simp only [if_neg cs] at hs hp ⊢
          rw [show 10 ^ t - en (N k) t = (10 - N k) ^ t by unfold en; omega] at hs
          rw [lN_mul, ← hs, show pay N S 12 k = pay N S 12 (k + 1) by rw [hp]; rfl]
          exact ih1
    · rw [if_pos (by omega), show k = 6 by omega]
theorem m_ruin (G : go h 31 6 (mf ns np a b c d e u)) (B : ga h 32 63 N) (I : inv N) (ht : t ≤ 3) (p : Int32) (lo : Int64) : ∀ n m, m ≤ 64 → 64 - m < n → f_X6_ruin_153 h n 31 (nI t) p (lN (10 ^ t)) (lN (rsum N t m)) lo (nI m) = f_X6_ruin_299 h p (lN (rsum N t 64)) lo := by
  have i3 := I.2.2.1
  obtain ⟨r, r0, -⟩ := mf_rd G
  intro n
  induction n with
  | zero => intro m _ hn; omega
  | succ n ih =>
    intro m hm hn
    unfold f_X6_ruin_153
    rw [n_ifge 64 64 rfl (by omega) (by decide)]
    rcases Nat.lt_or_ge m 64 with hlt | hge
    · have ih1 := ih (m + 1) (by omega) (by omega)
      have hs : rsum N t (m + 1) = rsum N t m + if owe N m 12 ≤ N 10 then 0 else wy N t m 6 := rfl
      have e1 := m_set G B I (t := t) (by omega) (S := m) (by omega) p (lN (rsum N t m)) lo (f_X6_ruin_153 h n) gi_F 0 (by omega) (by decide)
      rw [if_neg (by omega), show f_X6_ruin_169 h (f_X6_ruin_153 h n) gi_F 31 (nI t) p (lN (10 ^ t)) (lN (rsum N t m)) lo (nI m) 1 0 0 = _ from e1]
      have how : pay N m 12 6 ≤ 90 * 12 * 6 := by
        have : ∀ j, pay N m 12 j ≤ 90 * 12 * j := by
          intro j
          induction j with
          | zero => exact Nat.le_refl _
          | succ j ih =>
            have := al_le I j 12 (Nat.le_refl _)
            unfold pay
            split <;> omega
        exact this 6
      rw [owe_pay I m 12 (Nat.le_refl _)] at hs
      generalize pay N m 12 6 = W at how hs ⊢
      unfold f_X6_ruin_270 f_X6_ruin_290
      rw [r0]
      simp only [Option.bind_some]
      rw [ga_rl B (I := 10) (i := 10) rfl (by omega) (by decide)]
      simp only [Option.bind_some]
      rw [n_ifle _ (N 10) rfl (by omega) (by omega), lN_add, nI_1]
      by_cases cc : W ≤ N 10
      · rw [if_pos cc] at hs ⊢
        rw [show lN (rsum N t m) + 0 = lN (rsum N t m) from Int64.add_zero _, show rsum N t m = rsum N t (m + 1) by rw [hs]; rfl]; exact ih1
      · rw [if_neg cc] at hs ⊢
        rw [← hs]; exact ih1
    · rw [if_pos (by omega), show m = 64 by omega]
theorem m_lows (s : Int64) (p : Int32) : ∀ n k, k ≤ 6 → 6 - k < n → f_X6_ruin_130 h n 31 (nI t) p (lN (10 ^ t)) s (lN ((10 ^ t) ^ k)) (nI k) = f_X6_ruin_153 h gi_F 31 (nI t) p (lN (10 ^ t)) s (lN ((10 ^ t) ^ 6)) 0 := by
  intro n
  induction n with
  | zero => intro k _ hn; omega
  | succ n ih =>
    intro k hk hn
    unfold f_X6_ruin_130
    rw [n_ifge 6 6 rfl (by omega) (by decide)]
    rcases Nat.lt_or_ge k 6 with hlt | hge
    · rw [if_neg (by omega), lN_mul, nI_1, ← Nat.pow_succ]
      exact ih (k + 1) (by omega) (by omega)
    · rw [if_pos (by omega), show k = 6 by omega]
theorem k_ruin (K : Core h c0 N ns sg np P im IM) (S : Scr h ns np) (x y z : Int32) : RR (f_X5_ruin h 1 x y z) (f_X6_ruin h 31 x y z) := by
  obtain ⟨-, -, -, -, -, ⟨a, b, c, d, e, u, G⟩, -⟩ := id S
  obtain ⟨ci, c1, -⟩ := cls_rd K
  unfold RR f_X5_ruin f_X6_ruin
  rcases ar_in 0 3 0 3 rfl rfl (by decide) (by decide) x with ⟨n1, n2⟩ | ⟨t, -, ht, rfl, n1, n2⟩
  · rw [n1, n2]; exact ⟨-1000000000000000002, rfl, rfl⟩
  rw [n1, n2, Option.bind_some, if_neg i1_ne0, Option.bind_some, if_neg i1_ne0]
  rcases ar_in 0 1 0 1 rfl rfl (by decide) (by decide) y with ⟨n1, n2⟩ | ⟨w, -, hw, rfl, n1, n2⟩
  · rw [n1, n2]; exact ⟨-1000000000000000002, rfl, rfl⟩
  rw [n1, n2, Option.bind_some, if_neg i1_ne0, Option.bind_some, if_neg i1_ne0]
  rcases ar_part z with ⟨n1, n2⟩ | ⟨p, hp, rfl, n1, n2⟩
  · rw [n1, n2]; exact ⟨-1000000000000000002, rfl, rfl⟩
  rw [n1, n2, Option.bind_some, if_neg i1_ne0, Option.bind_some, if_neg i1_ne0, x6_pw, pw10 (by omega), Option.bind_some]
  have h10 := p10_le (show t ≤ 9 by omega)
  by_cases cw : w = 1
  · subst cw
    have hm := msum_le K.iv ht 6 (Nat.le_refl _)
    rw [if_pos (show nI 1 = 1 from rfl), if_pos (show nI 1 = 1 from rfl), c1, Option.bind_some, if_pos (bk_rd K.bok).1, d_mean K.bok K.iv (by omega), Option.bind_some, Option.bind_some, c_low (by omega) (p10_pos t) (by omega) hp, show f_X6_ruin_54 h gi_F 31 (nI t) (nI p) (lN (10 ^ t)) 0 0 = _ from m_mean G K.mbk K.iv (t := t) (by omega) gi_F 0 (by omega) (by decide)]
    unfold f_X6_ruin_118
    rw [m_low (by omega) (p10_pos t) (by omega) hp]
    exact ⟨_, rfl, rfl⟩
  · have h0 : w = 0 := by omega
    subst h0
    have hr := rsum_64 N ht
    have h18 : (10 ^ 18 : Nat) < 2 ^ 63 := by decide
    have hp6 : (10 ^ t) ^ 6 ≤ 10 ^ 18 := by rw [← Nat.pow_mul]; exact Nat.pow_le_pow_right (by omega) (by omega)
    have hp0 : 0 < (10 ^ t) ^ 6 := Nat.pow_pos (p10_pos t)
    rw [if_neg (show ¬ nI 0 = 1 by decide), if_neg (show ¬ nI 0 = 1 by decide), show f_X5_ruin_60 h gi_F 1 (nI t) (nI p) 0 0 = _ from c_ruin K ht gi_F 0 (by omega) (by decide), show f_X6_ruin_130 h gi_F 31 (nI t) (nI p) (lN (10 ^ t)) 0 1 0 = _ from m_lows 0 (nI p) gi_F 0 (by omega) (by decide), show f_X6_ruin_153 h gi_F 31 (nI t) (nI p) (lN (10 ^ t)) 0 (lN ((10 ^ t) ^ 6)) 0 = _ from m_ruin G K.mbk K.iv ht (nI p) _ gi_F 0 (by omega) (by decide)]
    unfold f_X5_ruin_107 f_X6_ruin_299
    rw [show nI t * 6 = nI (t * 6) from pk_mul t 6, pw10 (by omega), Nat.pow_mul, Option.bind_some, c_low (by omega) hp0 (by omega) hp, m_low (by omega) hp0 (by omega) hp]
    exact ⟨_, rfl, rfl⟩
end RUIN
