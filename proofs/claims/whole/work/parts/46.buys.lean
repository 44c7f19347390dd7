/-! OFFERS, 2: both sides -/
theorem off_of2 {h : gi_H} {c0 : va_E} {N : Nat → Nat} {ns : Nat} {sg : Nat → Nat} {np : Nat} {P : Nat → Nat} {im : Nat → gi_Im} {IM : Nat → Nat} (K : Core h c0 N ns sg np P im IM) : go h 25 2 [.ref 26, .ref 27] := K.off
def of2 : List Value := [.ref 26, .ref 27]
section BUYS
variable {N : Nat → Nat} {w kn t : Nat} {ns : Nat} {sg : Nat → Nat} {np : Nat}
theorem o_su_le (k : Nat) : o_su N w k ≤ 90 := by
  have := dg_lt w 6 k
  unfold o_su
  split <;> omega
theorem c_lay (I : inv N) (hw : w < 2 ^ 31) (hk : kn < 2 ^ 31) (ht : t ≤ 9) : ∀ (n k : Nat) (h : gi_H) (gc : Nat → Nat) (gs : Nat → Int64), k ≤ 6 → 6 - k < n → go h 25 2 of2 → bk h 2 N ns sg → ga h 26 6 gc → gl h 27 6 gs → (∀ i, i < k → gc i = o_co N w t i ∧ gs i = o_sv N w kn t i) → ∃ h', f_X2_lay_3 n h 25 2 (nI w) (nI kn) (nI t) (nI k) = some h' ∧ ga h' 26 6 (o_co N w t) ∧ gl h' 27 6 (o_sv N w kn t) ∧ gfr [26, 27] h h' := by
  have i5 := I.2.2.2.2.1
  intro n
  induction n with
  | zero => intro k h gc gs _ hn; omega
  | succ n ih =>
    intro k h gc gs hk6 hn O B A L ee
    unfold f_X2_lay_3
    rw [n_ifge 6 6 rfl (by omega) (by decide)]
    rcases Nat.lt_or_ge k 6 with hlt | hge
    · obtain ⟨ri, r0, r1, r2, r3, r4, r5, q6, q7, q8, q9, q10, q11, q12, q13, q14, a6, a7, -⟩ := bk_rd B
      have j1 := I.1 k hlt
      have hsu := o_su_le (N := N) (w := w) k
      have hd := dg_lt kn 6 k
      have hd2 := dg_lt w 6 k
      have h10 := p10_le ht
      rw [if_neg (by omega), if_pos ri, d_ended B i5 (by omega), show f_X5_digitOf (nI w) 6 (nI k) = some (nI (dg w 6 k)) from dig_eq (D := 6) hw hlt (by decide)]
      simp only [Option.bind_some]
      rw [n_ifb, n_10m]
      have key : (if (N 12).testBit k = true then f_X2_lay_34 (f_X2_lay_3 n) h 25 2 (nI w) (nI kn) (nI t) (nI k) 0 else f_X2_lay_34 (f_X2_lay_3 n) h 25 2 (nI w) (nI kn) (nI t) (nI k) (nI (10 * dg w 6 k))) = f_X2_lay_34 (f_X2_lay_3 n) h 25 2 (nI w) (nI kn) (nI t) (nI k) (nI (o_su N w k)) := by
        unfold o_su
        cases (N 12).testBit k <;> rfl
      rw [key]
      unfold f_X2_lay_34
      rw [go_fR O (k := 0) (x := 26) rfl, q6]
      simp only [Option.bind_some]
      rw [a6 k hlt]
      simp only [Option.bind_some]
      rw [price_eq (by omega) (by omega) ht]
      simp only [Option.bind_some]
      obtain ⟨h1, e1, A1, f1⟩ := ga_wr A hlt (by decide) (o_co N w t k)
      rw [show gi_pi h 26 0 (nI k) (nI (prc (o_su N w k) (N k) t)) = some h1 from e1]
      simp only [Option.bind_some]
      have O1 := O.fr f1 (by decide)
      rw [go_fR O1 (k := 1) (x := 27) rfl, go_fR O1 (k := 0) (x := 26) rfl, show f_X5_digitOf (nI kn) 6 (nI k) = some (nI (dg kn 6 k)) from dig_eq (D := 6) hk hlt (by decide)]
      simp only [Option.bind_some]
      rw [endings_eq (by omega) (by omega), ga_rd A1 hlt (by decide), gu_self, pw10 (by omega)]
      simp only [Option.bind_some]
      have hco : o_co N w t k ≤ 90 := Nat.le_trans prc_le hsu
      rw [nI_l (by omega), nI_l (by omega)]
      obtain ⟨h2, e2, L2, f2⟩ := gl_wr (L.fr f1 (by decide)) hlt (by decide) (o_sv N w kn t k)
      rw [show gi_pl h1 27 (nI k) (lN (o_su N w k) * lN (en (dg kn 6 k) t) - lN (o_co N w t k) * lN (10 ^ t)) = some h2 from e2]
      simp only [Option.bind_some]
      rw [nI_1]
      have F : gfr [26, 27] h h2 := (f1.mono (by decide)).trans (f2.mono (by decide))
      obtain ⟨h3, e3, A3, L3, f3⟩ := ih (k + 1) h2 _ _ (by omega) (by omega) (O1.fr f2 (by decide)) (B.fr F (by decide)) (A1.fr f2 (by decide)) L2 (fun i hi => by
        by_cases q : i = k
        · rw [q, gu_self]; exact ⟨rfl, by unfold guL; rw [if_pos rfl]⟩
        · rw [gu_ne _ _ q]; unfold guL; rw [if_neg q]; exact ee i (by omega))
      exact ⟨h3, e3, A3, L3, F.trans f3⟩
    · rw [if_pos (by omega)]
      obtain ⟨f, e1, e2⟩ := L
      exact ⟨h, rfl, A.cong (fun i hi => (ee i (by omega)).1), ⟨f, e1, fun i hi => by rw [e2 i hi]; exact (ee i (by omega)).2⟩, gfr.refl _ _⟩
theorem c_cost {h : gi_H} (O : go h 25 2 of2) (A : ga h 26 6 (o_co N w t)) {S : Nat} (hS : S < 2 ^ 31) : f_X2_costOf h 25 (nI S) = some (nI (o_cs N w t S 6)) := by
  have st : ∀ n p, p ≤ 6 → 6 - p < n → f_X2_costOf_4 h n 25 (nI S) (nI (o_cs N w t S p)) (nI p) = some (nI (o_cs N w t S 6)) := by
    intro n
    induction n with
    | zero => intro p _ hn; omega
    | succ n ih =>
      intro p hp hn
      unfold f_X2_costOf_4
      rw [n_ifge 6 6 rfl (by omega) (by decide)]
      rcases Nat.lt_or_ge p 6 with hlt | hge
      · have hs : o_cs N w t S (p + 1) = o_cs N w t S p + if S.testBit p then o_co N w t p else 0 := rfl
        rw [if_neg (by omega), go_fR O (k := 0) (x := 26) rfl]
        simp only [Option.bind_some]
        rw [ga_rd A hlt (by decide)]
        simp only [Option.bind_some]
        rw [n_bit hS (by omega), n_ifb, nI_add, nI_1]
        by_cases c1 : S.testBit p = true
        · rw [if_pos c1] at hs ⊢
          rw [← hs]
          exact ih (p + 1) (by omega) (by omega)
        · rw [if_neg c1] at hs ⊢
          rw [show o_cs N w t S p = o_cs N w t S (p + 1) by rw [hs]; rfl]
          exact ih (p + 1) (by omega) (by omega)
      · rw [if_pos (by omega), show p = 6 by omega]
  exact st gi_F 0 (by omega) (by decide)
theorem c_sur {h : gi_H} (O : go h 25 2 of2) (A : gl h 27 6 (o_sv N w kn t)) {S : Nat} (hS : S < 2 ^ 31) : f_X2_surplusOf h 25 (nI S) = some (o_ss N w kn t S 6) := by
  have st : ∀ n p, p ≤ 6 → 6 - p < n → f_X2_surplusOf_5 h n 25 (nI S) (o_ss N w kn t S p) (nI p) = some (o_ss N w kn t S 6) := by
    intro n
    induction n with
    | zero => intro p _ hn; omega
    | succ n ih =>
      intro p hp hn
      unfold f_X2_surplusOf_5
      rw [n_ifge 6 6 rfl (by omega) (by decide)]
      rcases Nat.lt_or_ge p 6 with hlt | hge
      · have hs : o_ss N w kn t S (p + 1) = o_ss N w kn t S p + if S.testBit p then o_sv N w kn t p else 0 := rfl
        rw [if_neg (by omega), go_fR O (k := 1) (x := 27) rfl]
        simp only [Option.bind_some]
        rw [gl_rd A hlt (by decide)]
        simp only [Option.bind_some]
        rw [n_bit hS (by omega), n_ifb, nI_1]
        by_cases c1 : S.testBit p = true
        · rw [if_pos c1] at hs ⊢
          rw [← hs]
          exact ih (p + 1) (by omega) (by omega)
        · rw [if_neg c1] at hs ⊢
          rw [show o_ss N w kn t S p = o_ss N w kn t S (p + 1) by rw [hs]; exact (Int64.add_zero _).symm]
          exact ih (p + 1) (by omega) (by omega)
      · rw [if_pos (by omega), show p = 6 by omega]
  exact st gi_F 0 (by omega) (by decide)
theorem o_cs_le (S : Nat) : ∀ n, o_cs N w t S n ≤ 90 * n := by
  intro n
  induction n with
  | zero => exact Nat.le_refl _
  | succ n ih =>
    have h1 : o_co N w t n ≤ 90 := Nat.le_trans prc_le (o_su_le n)
    unfold o_cs
    split <;> omega
theorem c_best {h : gi_H} (O : go h 25 2 of2) (A : ga h 26 6 (o_co N w t)) (L : gl h 27 6 (o_sv N w kn t)) {cash : Nat} (hc : cash ≤ 999) : f_X2_bestSet h 25 (nI cash) = some (nI (o_bs N w kn t cash 64).1) := by
  have st : ∀ n m, m ≤ 64 → 64 - m < n → f_X2_bestSet_7 h n 25 (nI cash) (nI (o_bs N w kn t cash m).1) (o_bs N w kn t cash m).2 (nI m) = some (nI (o_bs N w kn t cash 64).1) := by
    intro n
    induction n with
    | zero => intro m _ hn; omega
    | succ n ih =>
      intro m hm hn
      unfold f_X2_bestSet_7
      rw [n_ifge 64 64 rfl (by omega) (by decide)]
      rcases Nat.lt_or_ge m 64 with hlt | hge
      · have hl := o_cs_le (N := N) (w := w) (t := t) m 6
        have hs : o_bs N w kn t cash (m + 1) = if o_cs N w t m 6 ≤ cash ∧ ¬ o_ss N w kn t m 6 ≤ (o_bs N w kn t cash m).2 then (m, o_ss N w kn t m 6) else o_bs N w kn t cash m := rfl
        have ih1 := ih (m + 1) (by omega) (by omega)
        rw [if_neg (by omega), if_pos (go_is O), c_cost O A (by omega)]
        simp only [Option.bind_some]
        rw [n_ifgt (nI cash) cash rfl (by omega) (by omega), if_pos (go_is O), c_sur O L (by omega)]
        simp only [Option.bind_some]
        rw [nI_1]
        by_cases c1 : cash < o_cs N w t m 6
        · rw [if_neg (fun z => by omega)] at hs
          rw [if_pos c1, ← hs]; exact ih1
        · rw [if_neg c1]
          by_cases c2 : o_ss N w kn t m 6 ≤ (o_bs N w kn t cash m).2
          · rw [if_neg (fun z => z.2 c2)] at hs
            rw [if_pos ((lg_le _ _).mpr c2), ← hs]; exact ih1
          · rw [if_pos ⟨by omega, c2⟩] at hs
            rw [if_neg (fun z => c2 ((lg_le _ _).mp z))]
            rw [hs] at ih1
            exact ih1
      · rw [if_pos (by omega), show m = 64 by omega]
  have h1 : o_bs N w kn t cash 1 = (0, 0) := by
    show (if o_cs N w t 0 6 ≤ cash ∧ ¬ o_ss N w kn t 0 6 ≤ (0 : Int64) then (0, o_ss N w kn t 0 6) else (0, 0)) = _
    rw [if_neg]
    intro ⟨_, z⟩
    apply z
    have : o_ss N w kn t 0 6 = 0 := by simp [o_ss]
    rw [this]
    decide
  have := st gi_F 1 (by omega) (by decide)
  rw [h1] at this
  exact this
/-! the reference -/
theorem x6_dig {r k : Nat} (hr : r < 2 ^ 31) (hk : k < 6) : f_X6_digit (nI r) (nI k) = some (nI (dg r 6 k)) := by
  have st : ∀ n j r, j ≤ 5 → 5 - j < n → r < 2 ^ 31 → f_X6_digit_4 n (nI r) (nI j) = some (nI (r / 10 ^ (5 - j) % 10)) := by
    intro n
    induction n with
    | zero => intro j r _ hn; omega
    | succ n ih =>
      intro j r hj hn hr
      unfold f_X6_digit_4 f_X6_digit_20
      rw [n_ifge 5 5 rfl (by omega) (by decide)]
      by_cases c : 5 ≤ j
      · rw [if_pos c, n_m10 hr, show 5 - j = 0 by omega, Nat.pow_zero, Nat.div_one]
      · rw [if_neg c, n_d10 hr, nI_1, ih (j + 1) (r / 10) (by omega) (by omega) (by omega), Nat.div_div_eq_div_mul, show 10 * 10 ^ (5 - (j + 1)) = 10 ^ (5 - j) by rw [← Nat.pow_succ']; congr 1; omega]
  exact st gi_F k r (by omega) (by unfold gi_F; omega) hr
def o_Q (N : Nat → Nat) (w kn t S : Nat) (k : Nat) (c : Int32) (u : Int64) (f : Int32) : Prop := (f = 1 ∧ c = nI (o_cs N w t S k) ∧ u = o_ss N w kn t S k ∧ ∀ q, q < k → S.testBit q = true → o_ok N w q = true) ∨ (f = 0 ∧ ∃ q, q < k ∧ S.testBit q = true ∧ o_ok N w q = false)
theorem m_in (I : inv N) (hw : w < 2 ^ 31) (hkn : kn < 2 ^ 31) (ht : t ≤ 9) {h : gi_H} {a : Int32} {b : Bool} {c d e : Int32} {up : Int64} (G : go h 31 6 (mf ns np a b c d e up)) (B : ga h 32 63 N) {S : Nat} (hS : S < 2 ^ 31) (K : gi_H → Nat → Int32 → Int32 → Int32 → Int32 → Int64 → Int32 → Int32 → Option (Int32 × gi_H)) (by' fo : Int32) : ∀ (n k : Nat) (cc' : Int32) (uu' : Int64) (ff' : Int32), k ≤ 6 → 6 - k < n → o_Q N w kn t S k cc' uu' ff' → ∃ cc uu ff, o_Q N w kn t S 6 cc uu ff ∧ f_X6_bestSet_40 K n h 31 by' (nI w) (nI kn) (nI t) (lN (10 ^ t)) fo (nI S) cc' uu' ff' (nI k) = f_X6_bestSet_164 K h 31 by' (nI w) (nI kn) (nI t) (lN (10 ^ t)) fo (nI S) cc uu ff := by
  have i5 := I.2.2.2.2.1
  have h10 := p10_le ht
  obtain ⟨r, r0, -⟩ := mf_rd G
  intro n
  induction n with
  | zero => intro k cc' uu' ff' _ hn; omega
  | succ n ih =>
    intro k cc' uu' ff' hk hn Q
    unfold f_X6_bestSet_40
    rw [n_ifge 6 6 rfl (by omega) (by decide)]
    rcases Nat.lt_or_ge k 6 with hlt | hge
    · rw [if_neg (by omega), x6_has hS (by omega)]
      simp only [Option.bind_some]
      rw [n_ifb, nI_1]
      by_cases c1 : S.testBit k = true
      · have j1 := I.1 k hlt
        have hd := dg_lt w 6 k
        have hd2 := dg_lt kn 6 k
        rw [if_pos c1, x6_dig hw hlt, r0]
        simp only [Option.bind_some]
        rw [ga_rd B (by omega) (by decide), ga_rl B (I := 12) (i := 12) rfl (by omega) (by decide)]
        simp only [Option.bind_some]
        rw [n_10m, x6_price_eq (by omega) (by omega) ht, x6_has (by omega) (by omega)]
        simp only [Option.bind_some]
        rw [n_ifb, n_ifle 0 0 rfl (by omega) (by decide)]
        unfold f_X6_bestSet_113 f_X6_bestSet_114
        rw [x6_dig hkn hlt]
        simp only [Option.bind_some]
        rw [n_10L (by omega), x6_pw, pw_eq _ (by omega)]
        simp only [Option.bind_some]
        rw [nI_1]
        have bad : o_ok N w k = false → o_Q N w kn t S (k + 1) (cc' + nI (prc (10 * dg w 6 k) (N k) t)) (uu' + ((nI (10 * dg w 6 k)).toInt64 * (lN (10 ^ t) - lN ((10 - dg kn 6 k) ^ t)) - (nI (prc (10 * dg w 6 k) (N k) t)).toInt64 * lN (10 ^ t))) 0 := fun z => Or.inr ⟨rfl, k, by omega, c1, z⟩
        rcases Q with ⟨rfl, ec, eu, hq⟩ | ⟨rfl, q, hq1, hq2, hq3⟩
        · rw [if_neg i1_ne0]
          by_cases c2 : 10 * dg w 6 k ≤ 0
          · rw [if_pos c2]
            exact ih (k + 1) _ _ _ (by omega) (by omega) (bad (by unfold o_ok; rw [decide_eq_false (show ¬ 0 < dg w 6 k by omega), Bool.and_false]))
          · rw [if_neg c2]
            by_cases c3 : (N 12).testBit k = true
            · rw [if_pos c3]
              exact ih (k + 1) _ _ _ (by omega) (by omega) (bad (by unfold o_ok; rw [c3]; rfl))
            · rw [if_neg c3]
              refine ih (k + 1) _ _ _ (by omega) (by omega) (Or.inl ⟨rfl, ?_, ?_, fun q hq1 hq2 => ?_⟩)
              · have hco : o_co N w t k = prc (10 * dg w 6 k) (N k) t := by unfold o_co o_su; rw [if_neg c3]
                rw [ec, nI_add, ← hco]
                show _ = nI (o_cs N w t S k + if S.testBit k then o_co N w t k else 0)
                rw [if_pos c1]
              · have hpr : prc (10 * dg w 6 k) (N k) t ≤ 10 * dg w 6 k := prc_le
                rw [eu, nI_l (by omega), nI_l (by omega), lN_sub (pow_le10 (dg kn 6 k) t)]
                show _ = o_ss N w kn t S k + if S.testBit k then o_sv N w kn t k else 0
                rw [if_pos c1]
                unfold o_sv o_co o_su
                rw [if_neg c3]
                rfl
              · by_cases e : q = k
                · subst e
                  unfold o_ok
                  rw [show (N 12).testBit q = false by simpa using c3, decide_eq_true (show 0 < dg w 6 q by omega)]
                  rfl
                · exact hq q (by omega) hq2
        · rw [if_pos rfl]
          exact ih (k + 1) _ _ _ (by omega) (by omega) (Or.inr ⟨rfl, q, by omega, hq2, hq3⟩)
      · rw [if_neg c1]
        refine ih (k + 1) _ _ _ (by omega) (by omega) ?_
        rcases Q with ⟨rfl, ec, eu, hq⟩ | ⟨rfl, q, hq1, hq2, hq3⟩
        · refine Or.inl ⟨rfl, ?_, ?_, fun q hq1 hq2 => ?_⟩
          · rw [ec]
            show _ = nI (o_cs N w t S k + if S.testBit k then o_co N w t k else 0)
            rw [if_neg c1]
            rfl
          · rw [eu]
            show _ = o_ss N w kn t S k + if S.testBit k then o_sv N w kn t k else 0
            rw [if_neg c1]
            exact (Int64.add_zero _).symm
          · by_cases e : q = k
            · subst e; exact absurd hq2 c1
            · exact hq q (by omega) hq2
        · exact Or.inr ⟨rfl, q, by omega, hq2, hq3⟩
    · rw [if_pos (by omega)]
      have : k = 6 := by omega
      subst this
      exact ⟨cc', uu', ff', Q, rfl⟩
theorem m_out (I : inv N) (hw : w < 2 ^ 31) (hkn : kn < 2 ^ 31) (ht : t ≤ 9) {a : Int32} {b : Bool} {c d e : Int32} {y : Nat} (hy : y < 4) : ∀ (n m : Nat) (h : gi_H), m ≤ 64 → 64 - m < n → go h 31 6 (mf ns np a b c d e (o_bs N w kn t (N (6 + y)) m).2) → ga h 32 63 N → ∃ h', f_X6_bestSet_21 n h 31 (nI y) (nI w) (nI kn) (nI t) (lN (10 ^ t)) (nI (o_bs N w kn t (N (6 + y)) m).1) (nI m) = some (nI (o_bs N w kn t (N (6 + y)) 64).1, h') ∧ go h' 31 6 (mf ns np a b c d e (o_bs N w kn t (N (6 + y)) 64).2) ∧ gfr [31] h h' := by
  have hcash := I.2.1 y hy
  intro n
  induction n with
  | zero => intro m h _ hn; omega
  | succ n ih =>
    intro m h hm hn G B
    unfold f_X6_bestSet_21
    rw [n_ifge 64 64 rfl (by omega) (by decide)]
    rcases Nat.lt_or_ge m 64 with hlt | hge
    · rw [if_neg (by omega)]
      obtain ⟨cc, uu, ff, Q, e1⟩ := m_in I hw hkn ht G B (S := m) (by omega) (f_X6_bestSet_21 n) (nI y) (nI (o_bs N w kn t (N (6 + y)) m).1) gi_F 0 0 0 1 (by omega) (by decide) (Or.inl ⟨rfl, rfl, rfl, fun q hq => by omega⟩)
      rw [show f_X6_bestSet_40 (f_X6_bestSet_21 n) gi_F h 31 (nI y) (nI w) (nI kn) (nI t) (lN (10 ^ t)) (nI (o_bs N w kn t (N (6 + y)) m).1) (nI m) 0 0 1 0 = _ from e1]
      have hs : o_bs N w kn t (N (6 + y)) (m + 1) = if o_cs N w t m 6 ≤ N (6 + y) ∧ ¬ o_ss N w kn t m 6 ≤ (o_bs N w kn t (N (6 + y)) m).2 then (m, o_ss N w kn t m 6) else o_bs N w kn t (N (6 + y)) m := rfl
      have hl := o_cs_le (N := N) (w := w) (t := t) m 6
      have hbad : ∀ {k : Nat}, m.testBit k = true → k < 6 → o_ok N w k = false → o_bs N w kn t (N (6 + y)) (m + 1) = o_bs N w kn t (N (6 + y)) m := fun {k} => o_bad (k := k) (N (6 + y))
      have ih1 := ih (m + 1)
      generalize o_bs N w kn t (N (6 + y)) m = R at *
      generalize o_bs N w kn t (N (6 + y)) (m + 1) = R1 at *
      obtain ⟨r, r0, r1, r2, r3, r4, r5, r6, r7, r8, r9, r10, r11, -⟩ := mf_rd G
      -- nothing changes
      have no : R1 = R → ∃ h', f_X6_bestSet_197 (f_X6_bestSet_21 n) h 31 (nI y) (nI w) (nI kn) (nI t) (lN (10 ^ t)) (nI R.1) (nI m) uu = some (nI (o_bs N w kn t (N (6 + y)) 64).1, h') ∧ go h' 31 6 (mf ns np a b c d e (o_bs N w kn t (N (6 + y)) 64).2) ∧ gfr [31] h h' := by
        intro e
        unfold f_X6_bestSet_197 f_X6_bestSet_198 f_X6_bestSet_212 f_X6_bestSet_229
        rw [if_pos rfl, if_pos rfl, r11]
        simp only [Option.bind_some]
        obtain ⟨h1, e1, G1, f1⟩ := mf_w11 G R.2
        rw [e1]
        simp only [Option.bind_some]
        rw [nI_1]
        rw [e] at ih1
        obtain ⟨h2, e2, G2, f2⟩ := ih1 h1 (by omega) (by omega) G1 (B.fr f1 (by decide))
        exact ⟨h2, e2, G2, f1.trans f2⟩
      unfold f_X6_bestSet_164
      rcases Q with ⟨rfl, rfl, rfl, hq⟩ | ⟨rfl, q, hq1, hq2, hq3⟩
      · rw [if_neg i1_ne0, r0]
        simp only [Option.bind_some]
        rw [ga_rl B (n_6a y) (by omega) (by decide)]
        simp only [Option.bind_some]
        rw [n_ifgt (nI (N (6 + y))) (N (6 + y)) rfl (by omega) (by omega), r11]
        simp only [Option.bind_some]
        by_cases c1 : N (6 + y) < o_cs N w t m 6
        · rw [if_pos c1]
          exact no (by rw [hs, if_neg (fun z => by omega)])
        · rw [if_neg c1]
          by_cases c2 : o_ss N w kn t m 6 ≤ R.2
          · rw [if_pos ((lg_le _ _).mpr c2)]
            exact no (by rw [hs, if_neg (fun z => z.2 c2)])
          · rw [if_neg (fun z => c2 ((lg_le _ _).mp z))]
            rw [if_pos ⟨by omega, c2⟩] at hs
            unfold f_X6_bestSet_198 f_X6_bestSet_212 f_X6_bestSet_229
            rw [if_neg i1_ne0, if_neg i1_ne0]
            obtain ⟨h1, e1, G1, f1⟩ := mf_w11 G (o_ss N w kn t m 6)
            rw [e1]
            simp only [Option.bind_some]
            rw [nI_1]
            rw [hs] at ih1
            obtain ⟨h2, e2, G2, f2⟩ := ih1 h1 (by omega) (by omega) G1 (B.fr f1 (by decide))
            exact ⟨h2, e2, G2, f1.trans f2⟩
      · rw [if_pos rfl]
        exact no (hbad hq2 hq1 hq3)
    · rw [if_pos (by omega)]
      have : m = 64 := by omega
      subst this
      exact ⟨h, rfl, G, gfr.refl _ _⟩
theorem o_bs1 (cash : Nat) : o_bs N w kn t cash 1 = (0, 0) := by
  show (if o_cs N w t 0 6 ≤ cash ∧ ¬ o_ss N w kn t 0 6 ≤ (0 : Int64) then (0, o_ss N w kn t 0 6) else (0, 0)) = _
  rw [if_neg]
  intro ⟨_, z⟩
  apply z
  have : o_ss N w kn t 0 6 = 0 := by simp [o_ss]
  rw [this]
  decide
theorem m_best (I : inv N) (hw : w < 2 ^ 31) (hkn : kn < 2 ^ 31) (ht : t ≤ 9) {h : gi_H} {a : Int32} {b : Bool} {c d e : Int32} {up : Int64} {y : Nat} (hy : y < 4) (G : go h 31 6 (mf ns np a b c d e up)) (B : ga h 32 63 N) : ∃ h', f_X6_bestSet h 31 (nI y) (nI w) (nI kn) (nI t) = some (nI (o_bs N w kn t (N (6 + y)) 64).1, h') ∧ go h' 31 6 (mf ns np a b c d e (o_bs N w kn t (N (6 + y)) 64).2) ∧ gfr [31] h h' := by
  unfold f_X6_bestSet
  rw [x6_pw, pw10 (by omega)]
  simp only [Option.bind_some]
  obtain ⟨h1, e1, G1, f1⟩ := mf_w11 G 0
  rw [e1]
  simp only [Option.bind_some]
  have h1' := o_bs1 (N := N) (w := w) (kn := kn) (t := t) (N (6 + y))
  have hm := m_out (ns := ns) (np := np) (a := a) (b := b) (c := c) (d := d) (e := e) I hw hkn ht hy gi_F 1 h1 (by omega) (by decide)
  rw [h1'] at hm
  obtain ⟨h2, e2, G2, f2⟩ := hm G1 (B.fr f1 (by decide))
  exact ⟨h2, e2, G2, f1.trans f2⟩
/-- a long that is not below 0 -/
theorem l_nat {x : Int64} (h : (0 : Int64) ≤ x) : ∃ a : Nat, a < 2 ^ 63 ∧ x = lN a := by
  rw [Int64.le_iff_toInt_le] at h
  have h0 : (0 : Int64).toInt = 0 := by decide
  rw [h0] at h
  have h1 := Int64.toInt_lt x
  refine ⟨x.toInt.toNat, by omega, ?_⟩
  apply Int64.toInt_inj.mp
  unfold lN
  rw [lg_ofNat_toInt (by omega)]
  omega
variable {h : gi_H} {c0 : va_E} {P : Nat → Nat} {im : Nat → gi_Im} {IM : Nat → Nat}
theorem off_eq {x y z : Int32} : (∃ w kn t : Nat, w ≤ 999999 ∧ kn ≤ 999999 ∧ 1 ≤ t ∧ t ≤ 9 ∧ x = nI w ∧ y = nI kn ∧ z = nI t ∧ f_X6_areOffers x y z = some 1 ∧ ∀ b, f_X5_isBuyer b = some 1 → f_X5_refusalOfOffers b x y z = some 0) ∨ (f_X6_areOffers x y z = some 0 ∧ ∀ b, f_X5_isBuyer b = some 1 → f_X5_refusalOfOffers b x y z = some (-2)) := by
  unfold f_X6_areOffers f_X5_refusalOfOffers
  rcases ar_in 0 999999 0 999999 rfl rfl (by decide) (by decide) x with ⟨n1, n2⟩ | ⟨w, -, hw, rfl, n1, n2⟩
  · right; rw [n1, n2]; exact ⟨rfl, fun b hb => by rw [hb]; rfl⟩
  rcases ar_in 0 999999 0 999999 rfl rfl (by decide) (by decide) y with ⟨m1, m2⟩ | ⟨kn, -, hkn, rfl, m1, m2⟩
  · right; rw [n1, n2, m1, m2]; exact ⟨rfl, fun b hb => by rw [hb]; rfl⟩
  rcases ar_in 1 9 1 9 rfl rfl (by decide) (by decide) z with ⟨p1, p2⟩ | ⟨t, ht0, ht, rfl, p1, p2⟩
  · right; rw [n1, n2, m1, m2, p1, p2]; exact ⟨rfl, fun b hb => by rw [hb]; rfl⟩
  left
  rw [n1, n2, m1, m2, p1, p2]
  exact ⟨w, kn, t, hw, hkn, ht0, ht, rfl, rfl, rfl, rfl, fun b hb => by rw [hb]; rfl⟩
theorem Scr.off (S : Scr h ns np) {h' : gi_H} (f : gfr [26, 27, 31] h h') (s3 : ∃ g, ga h' 26 6 g) (s4 : ∃ g, gl h' 27 6 g) (s6 : ∃ a b c d e u, go h' 31 6 (mf ns np a b c d e u)) : Scr h' ns np := by
  obtain ⟨⟨a, b, c, d, e, s1⟩, ⟨x, y, z, s2⟩, -, -, ⟨g3, s5⟩, -, ⟨g4, s7⟩, ⟨g5, s8⟩, ⟨g6, s9⟩⟩ := S
  obtain ⟨gg, f', q, -⟩ := s4
  exact ⟨⟨a, b, c, d, e, s1.fr f (by decide)⟩, ⟨x, y, z, s2.fr f (by decide)⟩, s3, ⟨f', q⟩, ⟨g3, s5.fr f (by decide)⟩, s6, ⟨g4, s7.fr f (by decide)⟩, ⟨g5, s8.fr f (by decide)⟩, ⟨g6, s9.fr f (by decide)⟩⟩
theorem k_buys (K : Core h c0 N ns sg np P im IM) (S : Scr h ns np) (b x y z : Int32) : WW h c0 (fun h => f_X5_buys h 1 b x y z) (fun h => f_X6_buys h 31 b x y z) := by
  obtain ⟨-, -, ⟨g3, A⟩, ⟨g4, L⟩, -, ⟨a1, b1, c1, d1, e1, u1, G⟩, -⟩ := id S
  rcases ar_buyer b with ⟨l1, l2⟩ | ⟨q, hq, rfl, l1, l2⟩
  · exact WW.same K S (v := -1) (by unfold f_X5_buys f_X5_refusalOfOffers; rw [l1]; rfl) (by unfold f_X6_buys; rw [l2]; rfl)
  rcases off_eq (x := x) (y := y) (z := z) with ⟨w, kn, t, hw, hkn, ht0, ht, rfl, rfl, rfl, o1, o2⟩ | ⟨o1, o2⟩
  · obtain ⟨ci, cc1, cc2, cc3, cc4, -⟩ := cls_rd K
    obtain ⟨h1, e1, A1, L1, f1⟩ := c_lay K.iv (w := w) (kn := kn) (t := t) (by omega) (by omega) ht gi_F 0 h g3 g4 (by omega) (by decide) (off_of2 K) K.bok A ⟨g4, L, fun _ _ => rfl⟩ (fun i hi => by omega)
    have K1 := K.fr f1 (by decide)
    have G1 := G.fr f1 (by decide)
    obtain ⟨h2, e2, G2, f2⟩ := m_best K.iv (w := w) (kn := kn) (t := t) (by omega) (by omega) ht hq G1 K1.mbk
    have F2 : gfr [26, 27, 31] h h2 := (f1.mono (by decide)).trans (f2.mono (by decide))
    have hcash := K.iv.2.1 q hq
    refine ⟨nI (o_bs N w kn t (N (6 + q)) 64).1, h1, h2, ?_, K1.c0, go_is G1, ?_, N, ns, sg, np, P, im, IM, K1.fr f2 (by decide), S.off F2 ⟨_, A1.fr f2 (by decide)⟩ ⟨_, L1.fr f2 (by decide)⟩ ⟨_, _, _, _, _, _, G2⟩⟩
    rotate_left
    · show f_X6_buys h1 31 _ _ _ _ = _
      unfold f_X6_buys
      rw [l2, o1, Option.bind_some, if_neg i1_ne0, Option.bind_some, if_neg i1_ne0, if_pos (go_is G1), e2]
      rfl
    · show f_X5_buys h 1 _ _ _ _ = _
      unfold f_X5_buys f_X2_lay
      rw [o2 _ l1, Option.bind_some, if_pos rfl, cc4, cc1]
      simp only [Option.bind_some]
      rw [if_pos (go_is K.off), show f_X2_lay_3 gi_F h 25 2 (nI w) (nI kn) (nI t) 0 = some h1 from e1]
      simp only [Option.bind_some]
      rw [go_fR K1.cls (k := 3) (x := 25) rfl, go_fR K1.cls (k := 0) (x := 2) rfl]
      simp only [Option.bind_some]
      obtain ⟨ri, s0, s1, s2, s3, s4, s5, q6, q7, q8, q9, q10, q11, q12, q13, q14, a6, a7, -⟩ := bk_rd K1.bok
      rw [q7]
      simp only [Option.bind_some]
      rw [a7 q hq]
      simp only [Option.bind_some]
      rw [if_pos (go_is K1.off), c_best (off_of2 K1) A1 L1 hcash]
      rfl
  · refine WW.same K S (v := -2) ?_ ?_
    · show f_X5_buys h 1 _ _ _ _ = _
      unfold f_X5_buys
      rw [o2 _ l1]
      rfl
    · show f_X6_buys h 31 _ _ _ _ = _
      unfold f_X6_buys
      rw [l2, o1]
      rfl
theorem k_best (K : Core h c0 N ns sg np P im IM) (S : Scr h ns np) (b x y z p : Int32) : WW h c0 (fun h => f_X5_best h 1 b x y z p) (fun h => f_X6_best h 31 b x y z p) := by
  obtain ⟨-, -, ⟨g3, A⟩, ⟨g4, L⟩, -, ⟨a1, b1, c1, d1, e1, u1, G⟩, -⟩ := id S
  rcases ar_buyer b with ⟨l1, l2⟩ | ⟨q, hq, rfl, l1, l2⟩
  · exact WW.same K S (v := -1000000000000000001) (by unfold f_X5_best f_X5_refusalOfOffers; rw [l1]; rfl) (by unfold f_X6_best; rw [l2]; rfl)
  rcases off_eq (x := x) (y := y) (z := z) with ⟨w, kn, t, hw, hkn, ht0, ht, rfl, rfl, rfl, o1, o2⟩ | ⟨o1, o2⟩
  · rcases ar_part p with ⟨n1, n2⟩ | ⟨p, hp, rfl, n1, n2⟩
    · refine WW.same K S (v := -1000000000000000002) ?_ ?_
      · show f_X5_best h 1 _ _ _ _ _ = _
        unfold f_X5_best
        rw [o2 _ l1, Option.bind_some, if_pos rfl, n1]
        rfl
      · show f_X6_best h 31 _ _ _ _ _ = _
        unfold f_X6_best
        rw [l2, o1, n2]
        rfl
    obtain ⟨ci, cc1, cc2, cc3, cc4, -⟩ := cls_rd K
    obtain ⟨h1, e1, A1, L1, f1⟩ := c_lay K.iv (w := w) (kn := kn) (t := t) (by omega) (by omega) ht gi_F 0 h g3 g4 (by omega) (by decide) (off_of2 K) K.bok A ⟨g4, L, fun _ _ => rfl⟩ (fun i hi => by omega)
    have K1 := K.fr f1 (by decide)
    have G1 := G.fr f1 (by decide)
    obtain ⟨h2, e2, G2, f2⟩ := m_best K.iv (w := w) (kn := kn) (t := t) (by omega) (by omega) ht hq G1 K1.mbk
    have F2 : gfr [26, 27, 31] h h2 := (f1.mono (by decide)).trans (f2.mono (by decide))
    have hcash := K.iv.2.1 q hq
    obtain ⟨t1, t2, t3, t4⟩ := o_top (N := N) (w := w) (kn := kn) (t := t) (N (6 + q)) 64
    obtain ⟨v, hv, ev⟩ := l_nat t3
    have h10 := p10_le ht
    refine ⟨lN (lw v (10 ^ t) p), h1, h2, ?_, K1.c0, go_is G1, ?_, N, ns, sg, np, P, im, IM, K1.fr f2 (by decide), S.off F2 ⟨_, A1.fr f2 (by decide)⟩ ⟨_, L1.fr f2 (by decide)⟩ ⟨_, _, _, _, _, _, G2⟩⟩
    rotate_left
    · show f_X6_best h1 31 _ _ _ _ _ = _
      unfold f_X6_best
      rw [l2, o1, n2, Option.bind_some, if_neg i1_ne0, Option.bind_some, if_neg i1_ne0, Option.bind_some, if_neg i1_ne0, if_pos (go_is G1), e2]
      simp only [Option.bind_some]
      rw [(mf_rd G2).2.2.2.2.2.2.2.2.2.2.2.2.1, x6_pw, pw10 (by omega), ev]
      simp only [Option.bind_some]
      rw [m_low hv (p10_pos t) (by omega) hp]
      rfl
    · show f_X5_best h 1 _ _ _ _ _ = _
      unfold f_X5_best f_X5_best_27 f_X2_lay
      rw [o2 _ l1, Option.bind_some, if_pos rfl, n1, Option.bind_some, if_neg i1_ne0, if_pos rfl, cc4, cc1]
      simp only [Option.bind_some]
      rw [if_pos (go_is K.off), show f_X2_lay_3 gi_F h 25 2 (nI w) (nI kn) (nI t) 0 = some h1 from e1]
      simp only [Option.bind_some]
      rw [go_fR K1.cls (k := 3) (x := 25) rfl, go_fR K1.cls (k := 0) (x := 2) rfl]
      simp only [Option.bind_some]
      obtain ⟨ri, s0, s1, s2, s3, s4, s5, q6, q7, q8, q9, q10, q11, q12, q13, q14, a6, a7, -⟩ := bk_rd K1.bok
      rw [q7]
      simp only [Option.bind_some]
      rw [a7 q hq]
      simp only [Option.bind_some]
      rw [if_pos (go_is K1.off), c_best (off_of2 K1) A1 L1 hcash]
      simp only [Option.bind_some]
      rw [if_pos (go_is K1.off), c_sur (off_of2 K1) L1 (by omega), t2, ev, pw10 (by omega)]
      simp only [Option.bind_some]
      rw [c_low hv (p10_pos t) (by omega) hp]
      rfl
  · refine WW.same K S (v := -1000000000000000002) ?_ ?_
    · show f_X5_best h 1 _ _ _ _ _ = _
      unfold f_X5_best
      rw [o2 _ l1]
      rfl
    · show f_X6_best h 31 _ _ _ _ _ = _
      unfold f_X6_best
      rw [l2, o1]
      rfl
end BUYS
