/-! THE CLASS'S BOOK: its acts do what the numbers say -/
theorem n_eq0 {a : Nat} (ha : a < 2 ^ 31) : nI a = 0 ↔ a = 0 := by
  show nI a = nI 0 ↔ _
  exact nI_eq ha (by decide)
theorem n_if0 {α : Type} {a : Nat} (ha : a < 2 ^ 31) (x y : α) : (if nI a = 0 then x else y) = if a = 0 then x else y := by
  by_cases h : a = 0
  · rw [if_pos h, if_pos ((n_eq0 ha).mpr h)]
  · rw [if_neg h, if_neg (fun z => h ((n_eq0 ha).mp z))]
theorem n_ifb {α : Type} (a p : Nat) (x y : α) : (if nI (bN a p) = 0 then x else y) = if a.testBit p then y else x := by
  unfold bN
  cases a.testBit p <;> rfl
theorem n_min (a b : Nat) (ha : a < 2 ^ 31) (hb : b < 2 ^ 31) : f_J9_min_7cf53 (nI a) (nI b) = some (nI (min a b)) := by
  unfold f_J9_min_7cf53
  by_cases h : b < a
  · rw [if_pos ((nI_ltI hb ha).mpr h), Nat.min_eq_right (by omega)]
  · rw [if_neg (fun z => h ((nI_ltI hb ha).mp z)), Nat.min_eq_left (by omega)]
section DEV
variable {h : gi_H} {k : Nat} {N : Nat → Nat} {ns : Nat} {sg : Nat → Nat}
theorem d_ended (H : bk h k N ns sg) (h12 : N 12 < 64) {x : Nat} (hx : x < 32) : f_X0_hasEnded h k (nI x) = some (nI (bN (N 12) x)) := by
  obtain ⟨ri, r0, r1, r2, -⟩ := bk_rd H
  unfold f_X0_hasEnded
  rw [r2]
  simp only [Option.bind_some]
  rw [n_bit (by omega) hx]
  unfold bN
  cases (N 12).testBit x <;> rfl
theorem d_stands (H : bk h k N ns sg) (h14 : N 14 < 4096) {p : Nat} (hp : p < 12) : f_X0_stands h k (nI p) = some (nI (bN (N 14) p)) := by
  obtain ⟨ri, r0, r1, r2, r3, r4, -⟩ := bk_rd H
  unfold f_X0_stands
  rw [in_nI 0 11 rfl rfl (by decide) (Nat.zero_le p) (show p ≤ 11 by omega)]
  simp only [Option.bind_some]
  rw [if_neg i1_ne0, r4]
  simp only [Option.bind_some]
  rw [n_bit (by omega) (by omega)]
  unfold bN
  cases (N 14).testBit p <;> rfl
theorem d_strike (H : bk h k N ns sg) (h14 : N 14 < 4096) {p : Nat} (hp : p < 12) : ∃ h', f_X0_strike h k (nI p) = some h' ∧ bk h' k (sp_gone N p) ns sg ∧ gfr (bkl k) h h' := by
  obtain ⟨ri, r0, r1, r2, r3, r4, -⟩ := bk_rd H
  obtain ⟨h1, e1, H1, f1⟩ := bk_w4 H (clr (N 14) p)
  have hc14 := clr_le (N 14) p
  unfold f_X0_strike
  rw [r4]
  simp only [Option.bind_some]
  rw [n_clr (by omega), e1]
  simp only [Option.bind_some]
  obtain ⟨-, -, -, -, -, q4, -⟩ := bk_rd H1
  rw [q4, gu_self]
  simp only [Option.bind_some]
  unfold sp_gone
  rw [n_if0 (by omega)]
  by_cases hc : clr (N 14) p = 0
  · rw [if_pos hc, if_pos hc]
    obtain ⟨h2, e2, H2, f2⟩ := bk_w3 H1 0
    rw [show (0 : Int32) = nI 0 from rfl, e2]
    exact ⟨h2, rfl, H2, f1.trans f2⟩
  · rw [if_neg hc, if_neg hc]
    exact ⟨h1, rfl, H1, f1⟩
theorem d_receive (H : bk h k N ns sg) {b m : Nat} (hb : b < 4) (hm : m ≤ 10000) (hc : N (6 + b) ≤ 999) : ∃ h', f_X0_receive h k (nI b) (nI m) = some h' ∧ bk h' k (sp_gets N b m) ns sg ∧ gfr (bkl k) h h' := by
  obtain ⟨ri, r0, r1, r2, r3, r4, r5, q6, q7, q8, q9, q10, q11, q12, q13, q14, a6, a7, -⟩ := bk_rd H
  unfold f_X0_receive
  rw [in_nI 0 3 rfl rfl (by decide) (Nat.zero_le b) (show b ≤ 3 by omega)]
  simp only [Option.bind_some]
  rw [if_neg i1_ne0, q7]
  simp only [Option.bind_some]
  rw [a7 b hb]
  simp only [Option.bind_some]
  rw [nI_add, show (999 : Int32) = nI 999 from rfl, n_min _ _ (by decide) (by omega)]
  simp only [Option.bind_some]
  obtain ⟨h1, e1, H1, f1⟩ := bk_w7 H hb (min 999 (N (6 + b) + m))
  rw [e1]
  exact ⟨h1, rfl, H1, f1⟩
theorem d_enter (H : bk h k N ns sg) (h13 : N 13 < 12) (b x s tl : Nat) : ∃ h', f_X0_enter h k (nI b) (nI x) (nI s) (nI tl) = some h' ∧ bk h' k (sp_enter N b x s tl) ns sg ∧ gfr (bkl k) h h' := by
  obtain ⟨ri, r0, r1, r2, r3, r4, r5, q6, q7, q8, -⟩ := bk_rd H
  unfold f_X0_enter
  rw [r3]
  simp only [Option.bind_some]
  rw [in_nI 0 11 rfl rfl (by decide) (Nat.zero_le _) (show N 13 ≤ 11 by omega)]
  simp only [Option.bind_some]
  rw [if_neg i1_ne0, q8]
  simp only [Option.bind_some]
  obtain ⟨h1, e1, H1, f1⟩ := bk_w8 H h13 b
  rw [e1]
  simp only [Option.bind_some]
  obtain ⟨-, -, -, -, s3, -, -, -, -, -, s9, -⟩ := bk_rd H1
  rw [gu_ne _ _ (by omega)] at s3
  rw [s9, s3]
  simp only [Option.bind_some]
  obtain ⟨h2, e2, H2, f2⟩ := bk_w9 H1 h13 x
  rw [e2]
  simp only [Option.bind_some]
  obtain ⟨-, -, -, -, s3, -, -, -, -, -, -, s10, -⟩ := bk_rd H2
  rw [gu_ne _ _ (by omega), gu_ne _ _ (by omega)] at s3
  rw [s10, s3]
  simp only [Option.bind_some]
  obtain ⟨h3, e3, H3, f3⟩ := bk_w10 H2 h13 s
  rw [e3]
  simp only [Option.bind_some]
  obtain ⟨-, -, -, -, s3, -, -, -, -, -, -, -, s11, -⟩ := bk_rd H3
  rw [gu_ne _ _ (by omega), gu_ne _ _ (by omega), gu_ne _ _ (by omega)] at s3
  rw [s11, s3]
  simp only [Option.bind_some]
  obtain ⟨h4, e4, H4, f4⟩ := bk_w11 H3 h13 tl
  rw [e4]
  simp only [Option.bind_some]
  obtain ⟨-, -, -, -, s3, s4, -⟩ := bk_rd H4
  rw [gu_ne _ _ (by omega), gu_ne _ _ (by omega), gu_ne _ _ (by omega), gu_ne _ _ (by omega)] at s3 s4
  rw [s4, s3]
  simp only [Option.bind_some]
  rw [n_set (by omega)]
  obtain ⟨h5, e5, H5, f5⟩ := bk_w4 H4 (N 14 ||| 2 ^ N 13)
  rw [e5]
  simp only [Option.bind_some]
  obtain ⟨-, -, -, -, s3, -⟩ := bk_rd H5
  rw [gu_ne _ _ (by omega), gu_ne _ _ (by omega), gu_ne _ _ (by omega), gu_ne _ _ (by omega), gu_ne _ _ (by omega)] at s3
  rw [s3]
  simp only [Option.bind_some]
  rw [nI_1]
  obtain ⟨h6, e6, H6, f6⟩ := bk_w3 H5 (N 13 + 1)
  rw [e6]
  exact ⟨h6, rfl, H6, ((((f1.trans f2).trans f3).trans f4).trans f5).trans f6⟩
theorem d_buy (H : bk h k N ns sg) (I : inv N) {b x c t : Nat} (hb : b < 4) (hx : x < 6) (hc : c ≤ 9) (ht1 : 1 ≤ t) (ht : t ≤ 9) : ∃ h', f_X0_buyPolicy h k (nI b) (nI x) (nI c) (nI t) = some (nI (sp_buy N b x c t).1, h') ∧ bk h' k (sp_buy N b x c t).2 ns sg ∧ gfr (bkl k) h h' := by
  obtain ⟨i1, i2, i3, i4, i5, i6, i7, i8, i9⟩ := I
  obtain ⟨ri, r0, r1, r2, r3, r4, r5, q6, q7, q8, q9, q10, q11, q12, q13, q14, a6, a7, -⟩ := bk_rd H
  have hp : prc (10 * c) (N x) t ≤ 10 * c := prc_le
  have j1 := i1 x hx
  have j2 := i2 b hb
  unfold f_X0_buyPolicy
  rw [buyer_in hb]
  simp only [Option.bind_some]
  rw [if_neg i1_ne0, life_in hx]
  simp only [Option.bind_some]
  rw [if_neg i1_ne0, if_pos ri, d_ended H i5 (by omega)]
  simp only [Option.bind_some]
  rw [n_ifb]
  unfold sp_buy
  by_cases c1 : (N 12).testBit x = true
  · rw [if_pos c1, if_pos c1]
    exact ⟨h, rfl, H, gfr.refl _ _⟩
  rw [if_neg c1, if_neg c1, r3]
  simp only [Option.bind_some]
  by_cases c2 : N 13 = 12
  · rw [if_pos c2, if_neg (by show ¬ nI (N 13) < nI 12; rw [nI_ltI (by omega) (by decide)]; omega)]
    exact ⟨h, rfl, H, gfr.refl _ _⟩
  rw [if_neg c2, if_pos (by show nI (N 13) < nI 12; rw [nI_ltI (by omega) (by decide)]; omega), q6]
  simp only [Option.bind_some]
  rw [a6 x hx]
  simp only [Option.bind_some]
  rw [n_10m, price_eq (by omega) (by omega) (by omega)]
  simp only [Option.bind_some]
  rw [q7]
  simp only [Option.bind_some]
  rw [a7 b hb]
  simp only [Option.bind_some]
  by_cases c3 : N (6 + b) < prc (10 * c) (N x) t
  · rw [if_pos c3, if_neg (by rw [nI_leI (by omega) (by omega)]; omega)]
    exact ⟨h, rfl, H, gfr.refl _ _⟩
  rw [if_neg c3, if_pos (by rw [nI_leI (by omega) (by omega)]; omega), r0]
  simp only [Option.bind_some]
  have e9 : nI (N 11) + nI t - 1 = nI (N 11 + t - 1) := by
    rw [nI_add]
    exact pk_sub (a := N 11 + t) (b := 1) (by omega)
  rw [e9]
  by_cases c4 : 99 < N 11 + t - 1
  · rw [if_pos c4, if_neg (by show ¬ nI (N 11 + t - 1) ≤ nI 99; rw [nI_leI (by omega) (by decide)]; omega)]
    exact ⟨h, rfl, H, gfr.refl _ _⟩
  rw [if_neg c4, if_pos (by show nI (N 11 + t - 1) ≤ nI 99; rw [nI_leI (by omega) (by decide)]; omega)]
  rw [pk_sub (by omega)]
  obtain ⟨h1, e1, H1, f1⟩ := bk_w7 H hb (N (6 + b) - prc (10 * c) (N x) t)
  rw [e1]
  simp only [Option.bind_some]
  obtain ⟨-, s0, s1, -⟩ := bk_rd H1
  rw [gu_ne _ _ (by omega)] at s1 s0
  rw [s1]
  simp only [Option.bind_some]
  rw [nI_add, show (9999 : Int32) = nI 9999 from rfl, n_min _ _ (by decide) (by omega)]
  simp only [Option.bind_some]
  obtain ⟨h2, e2, H2, f2⟩ := bk_w1 H1 (min 9999 (N 10 + prc (10 * c) (N x) t))
  rw [e2]
  simp only [Option.bind_some]
  obtain ⟨s, s0, -⟩ := bk_rd H2
  rw [gu_ne _ _ (by omega), gu_ne _ _ (by omega)] at s0
  rw [s0]
  simp only [Option.bind_some]
  rw [if_pos s, e9]
  have h13 : (gu (gu N (6 + b) (N (6 + b) - prc (10 * c) (N x) t)) 10 (min 9999 (N 10 + prc (10 * c) (N x) t))) 13 < 12 := by
    rw [gu_ne _ _ (by omega), gu_ne _ _ (by omega)]
    omega
  obtain ⟨h3, e3, H3, f3⟩ := d_enter H2 h13 b x (10 * c) (N 11 + t - 1)
  rw [e3]
  exact ⟨h3, rfl, H3, (f1.trans f2).trans f3⟩
theorem d_pass (H : bk h k N ns sg) (I : inv N) {b p q : Nat} (hb : b < 4) (hp : p < 12) (hq : q < 4) : ∃ h', f_X0_passOn h k (nI b) (nI p) (nI q) = some (nI (sp_pass N b p q).1, h') ∧ bk h' k (sp_pass N b p q).2 ns sg ∧ gfr (bkl k) h h' := by
  obtain ⟨i1, i2, i3, i4, i5, i6, i7, i8, i9⟩ := I
  obtain ⟨ri, r0, r1, r2, r3, r4, r5, q6, q7, q8, q9, q10, q11, q12, q13, q14, a6, a7, a8, -⟩ := bk_rd H
  have j2 := i2 q hq
  have j3 := i2 b hb
  have j8 := i8 p hp
  unfold f_X0_passOn
  rw [buyer_in hq]
  simp only [Option.bind_some]
  rw [if_neg i1_ne0, q7]
  simp only [Option.bind_some]
  rw [a7 q hq]
  simp only [Option.bind_some]
  unfold sp_pass
  by_cases c1 : N (6 + q) < 1
  · rw [if_pos c1, if_neg (by show ¬ nI 1 ≤ nI (N (6 + q)); rw [nI_leI (by decide) (by omega)]; omega)]
    exact ⟨h, rfl, H, gfr.refl _ _⟩
  rw [if_neg c1, if_pos (by show nI 1 ≤ nI (N (6 + q)); rw [nI_leI (by decide) (by omega)]; omega), buyer_in hb]
  simp only [Option.bind_some]
  rw [if_neg i1_ne0, if_pos ri, d_stands H i7 hp]
  simp only [Option.bind_some]
  rw [n_ifb]
  by_cases c2 : (N 14).testBit p = true
  · rw [if_pos c2, q8]
    simp only [Option.bind_some]
    rw [a8 p hp]
    simp only [Option.bind_some]
    by_cases c3 : N (15 + 4 * p) = b
    · have hcond : ¬ ((N 14).testBit p = false ∨ N (15 + 4 * p) ≠ b) := by
        rintro (z | z)
        · rw [c2] at z; cases z
        · exact z c3
      rw [if_pos (show nI (N (15 + 4 * p)) = nI b by rw [c3]), if_neg hcond]
      by_cases c4 : b = q
      · rw [if_pos c4, if_pos (show nI b = nI q by rw [c4])]
        exact ⟨h, rfl, H, gfr.refl _ _⟩
      · rw [if_neg c4, if_neg (n_ne (by omega) (by omega) c4)]
        have e9 : nI (N (6 + q)) - 1 = nI (N (6 + q) - 1) := pk_sub (a := N (6 + q)) (b := 1) (by omega)
        rw [e9]
        obtain ⟨h1, e1, H1, f1⟩ := bk_w7 H hq (N (6 + q) - 1)
        rw [e1]
        simp only [Option.bind_some]
        rw [if_pos (bk_rd H1).1]
        have hle : (gu N (6 + q) (N (6 + q) - 1)) (6 + b) ≤ 999 := by rw [gu_ne _ _ (by omega)]; omega
        obtain ⟨h2, e2, H2, f2⟩ := d_receive H1 hb (m := 1) (by omega) hle
        rw [show (1 : Int32) = nI 1 from rfl, e2]
        simp only [Option.bind_some]
        obtain ⟨-, -, -, -, -, -, -, -, -, s8, -⟩ := bk_rd H2
        rw [s8]
        simp only [Option.bind_some]
        obtain ⟨h3, e3, H3, f3⟩ := bk_w8 H2 hp q
        rw [e3]
        exact ⟨h3, rfl, H3, (f1.trans f2).trans f3⟩
    · rw [if_neg (n_ne (by omega) (by omega) c3), if_pos (Or.inr c3)]
      exact ⟨h, rfl, H, gfr.refl _ _⟩
  · rw [if_neg c2, if_pos (Or.inl (by simpa using c2))]
    exact ⟨h, rfl, H, gfr.refl _ _⟩
theorem d_walk (H : bk h k N ns sg) (I : inv N) {x : Nat} (hx : x < 6) : ∃ h', f_X0_walk h k (nI x) = some (nI (sp_walk N x).1, h') ∧ bk h' k (sp_walk N x).2 ns sg ∧ gfr (bkl k) h h' := by
  obtain ⟨i1, i2, i3, i4, i5, i6, i7, i8, i9⟩ := I
  obtain ⟨ri, r0, r1, r2, r3, r4, r5, q6, q7, q8, q9, q10, q11, q12, q13, q14, a6, -⟩ := bk_rd H
  have j1 := i1 x hx
  unfold f_X0_walk
  rw [life_in hx]
  simp only [Option.bind_some]
  rw [if_neg i1_ne0, if_pos ri, d_ended H i5 (by omega)]
  simp only [Option.bind_some]
  rw [n_ifb]
  unfold sp_walk
  by_cases c1 : (N 12).testBit x = true
  · rw [if_pos c1, if_pos c1]
    exact ⟨h, rfl, H, gfr.refl _ _⟩
  rw [if_neg c1, if_neg c1, q6]
  simp only [Option.bind_some]
  rw [a6 x hx]
  simp only [Option.bind_some]
  by_cases c2 : N x = 0
  · rw [if_pos c2, if_neg (by show ¬ nI 0 < nI (N x); rw [nI_ltI (by decide) (by omega)]; omega)]
    exact ⟨h, rfl, H, gfr.refl _ _⟩
  rw [if_neg c2, if_pos (by show nI 0 < nI (N x); rw [nI_ltI (by decide) (by omega)]; omega)]
  have e9 : nI (N x) - 1 = nI (N x - 1) := pk_sub (a := N x) (b := 1) (by omega)
  rw [e9]
  obtain ⟨h1, e1, H1, f1⟩ := bk_w6 H hx (N x - 1)
  rw [e1]
  exact ⟨h1, rfl, H1, f1⟩
theorem d_rum (H : bk h k N ns sg) (I : inv N) {x : Nat} (hx : x < 6) : ∃ h', f_X0_rumour h k (nI x) = some (nI (sp_rum N x).1, h') ∧ bk h' k (sp_rum N x).2 ns sg ∧ gfr (bkl k) h h' := by
  obtain ⟨i1, i2, i3, i4, i5, i6, i7, i8, i9⟩ := I
  obtain ⟨ri, r0, r1, r2, r3, r4, r5, q6, q7, q8, q9, q10, q11, q12, q13, q14, a6, -⟩ := bk_rd H
  have j1 := i1 x hx
  unfold f_X0_rumour
  rw [life_in hx]
  simp only [Option.bind_some]
  rw [if_neg i1_ne0, if_pos ri, d_ended H i5 (by omega)]
  simp only [Option.bind_some]
  rw [n_ifb]
  unfold sp_rum
  by_cases c1 : (N 12).testBit x = true
  · rw [if_pos c1, if_pos c1]
    exact ⟨h, rfl, H, gfr.refl _ _⟩
  rw [if_neg c1, if_neg c1, q6]
  simp only [Option.bind_some]
  rw [a6 x hx]
  simp only [Option.bind_some]
  by_cases c2 : 9 ≤ N x
  · rw [if_pos c2, if_neg (by show ¬ nI (N x) < nI 9; rw [nI_ltI (by omega) (by decide)]; omega)]
    exact ⟨h, rfl, H, gfr.refl _ _⟩
  rw [if_neg c2, if_pos (by show nI (N x) < nI 9; rw [nI_ltI (by omega) (by decide)]; omega), nI_1]
  obtain ⟨h1, e1, H1, f1⟩ := bk_w6 H hx (N x + 1)
  rw [e1]
  exact ⟨h1, rfl, H1, f1⟩
end DEV
