/-! A YEAR DRAWN, what is told -/
def nx (x : Nat) : Nat := (75 * x + 74) % 65537
def yst (N : Nat → Nat) (y : Nat) : Nat → Nat := (sp_month (if (N 12).testBit (y % 6) = false ∧ y / 6 % 10 < N (y % 6) then sp_end N (y % 6) else (sp_buy N (y / 60 % 4) (y % 6) 1 (1 + y / 240 % 9)).2)).2
def yrs : Nat → (Nat → Nat) → Nat → (Nat → Nat)
  | 0, N, _ => N
  | m + 1, N, x => yrs m (yst N (nx x)) (nx x)
theorem inv_yst {N : Nat → Nat} (I : inv N) (y : Nat) : inv (yst N y) := by
  unfold yst
  refine inv_month ?_
  split
  · exact inv_end I (Nat.mod_lt _ (by omega))
  · exact inv_buy I (Nat.mod_lt _ (by omega)) (Nat.mod_lt _ (by omega)) (by omega) (by omega)
theorem inv_yrs : ∀ (m : Nat) (N : Nat → Nat) (x : Nat), inv N → inv (yrs m N x) := by
  intro m
  induction m with
  | zero => intro N x I; exact I
  | succ m ih => intro N x I; exact ih _ _ (inv_yst I _)
theorem nx_lt (x : Nat) : nx x < 65537 := Nat.mod_lt _ (by omega)
theorem y_nx {x : Nat} (hx : x < 65537) : ((75 : Int32) * nI x + 74) - ((75 : Int32) * nI x + 74) / 65537 * 65537 = nI (nx x) := by
  have e : (75 : Int32) * nI x + 74 = nI (75 * x + 74) := by rw [show (75 : Int32) * nI x = nI (75 * x) from pk_mul 75 x]; exact nI_add _ 74
  rw [e]
  exact pk_rem (a := 75 * x + 74) (d := 65537) (by omega) (by decide) (by decide)
theorem y_6 {y : Nat} (hy : y < 65537) : nI y - nI y / 6 * 6 = nI (y % 6) := pk_rem (a := y) (d := 6) (by omega) (by decide) (by decide)
theorem y_10 {y : Nat} (hy : y < 65537) : nI y / 6 - nI y / 6 / 10 * 10 = nI (y / 6 % 10) := by
  rw [show nI y / 6 = nI (y / 6) from pk_div (a := y) (d := 6) (by omega) (by decide) (by decide)]
  exact pk_rem (a := y / 6) (d := 10) (by omega) (by decide) (by decide)
theorem y_4 {y : Nat} (hy : y < 65537) : nI y / 60 - nI y / 60 / 4 * 4 = nI (y / 60 % 4) := by
  rw [show nI y / 60 = nI (y / 60) from pk_div (a := y) (d := 60) (by omega) (by decide) (by decide)]
  exact pk_rem (a := y / 60) (d := 4) (by omega) (by decide) (by decide)
theorem y_9 {y : Nat} (hy : y < 65537) : (1 : Int32) + (nI y / 240 - nI y / 240 / 9 * 9) = nI (1 + y / 240 % 9) := by
  rw [show nI y / 240 = nI (y / 240) from pk_div (a := y) (d := 240) (by omega) (by decide) (by decide)]
  rw [show nI (y / 240) - nI (y / 240) / 9 * 9 = nI (y / 240 % 9) from pk_rem (a := y / 240) (d := 9) (by omega) (by decide) (by decide)]
  exact nI_add 1 _
section YEAR
variable {h : gi_H} {c0 : va_E} {N : Nat → Nat} {ns : Nat} {sg : Nat → Nat} {np : Nat} {P : Nat → Nat} {im : Nat → gi_Im} {IM : Nat → Nat}
theorem c_year {a b c d e : Int32} {M : Nat} (hM : M < 1000) : ∀ (n i : Nat) (N : Nat → Nat) (x : Nat) (h : gi_H), i ≤ M → M - i < n → x < 65537 → inv N → go h 12 1 (cf a b c d e) → bk h 13 N ns sg → ∃ h', f_X1_drawMonths_14 n h 12 (nI M) (nI x) (nI i) = some h' ∧ bk h' 13 (yrs (M - i) N x) ns sg ∧ gfr (bkl 13) h h' := by
  intro n
  induction n with
  | zero => intro i N x h _ hn; omega
  | succ n ih =>
    intro i N x h hi hn hx I C B
    unfold f_X1_drawMonths_14
    rw [n_ifle (nI i) i rfl (by omega) (by omega)]
    by_cases ce : M ≤ i
    · rw [if_pos ce, show M - i = 0 by omega]
      exact ⟨h, rfl, B, gfr.refl _ _⟩
    · have hy := nx_lt x
      have hs : yrs (M - i) N x = yrs (M - (i + 1)) (yst N (nx x)) (nx x) := by
        rw [show M - i = (M - (i + 1)) + 1 by omega]; rfl
      rw [if_neg ce, y_nx hx, hs]
      have I2 := inv_yst I (nx x)
      unfold yst at I2 ⊢
      generalize nx x = y at hy I2 ⊢
      rw [y_6 hy, y_10 hy, (cf_rd C).2.1]
      have hk : y % 6 < 6 := Nat.mod_lt _ (by omega)
      have i5 := I.2.2.2.2.1
      have j1 := I.1 _ hk
      obtain ⟨ri, s0, s1, s2, s3, s4, s5, q6, q7, q8, q9, q10, q11, q12, q13, q14, a6, a7, -⟩ := bk_rd B
      simp only [Option.bind_some]
      rw [if_pos ri, d_ended B i5 (by omega), q6]
      simp only [Option.bind_some]
      rw [a6 _ hk, n_ifb, if_pos ri]
      simp only [Option.bind_some]
      rw [n_ifle _ (y / 6 % 10) rfl (by omega) (by omega)]
      have hbuy : ∃ h', f_X1_drawMonths_86 (f_X1_drawMonths_14 n) h 12 (nI M) (nI y) (nI i) (nI (y % 6)) = some h' ∧ bk h' 13 (yrs (M - (i + 1)) (sp_month (sp_buy N (y / 60 % 4) (y % 6) 1 (1 + y / 240 % 9)).2).2 y) ns sg ∧ gfr (bkl 13) h h' := by
        have Ib := inv_buy I (b := y / 60 % 4) (k := y % 6) (c := 1) (t := 1 + y / 240 % 9) (Nat.mod_lt _ (by omega)) hk (by omega) (by omega)
        unfold f_X1_drawMonths_86 f_X1_drawMonths_115
        rw [(cf_rd C).2.1, y_4 hy, y_9 hy]
        simp only [Option.bind_some]
        obtain ⟨h1, e1, B1, f1⟩ := d_buy B I (b := y / 60 % 4) (x := y % 6) (c := 1) (t := 1 + y / 240 % 9) (Nat.mod_lt _ (by omega)) hk (by omega) (by omega) (by omega)
        rw [if_pos ri, show (1 : Int32) = nI 1 from rfl, e1]
        simp only [Option.bind_some]
        rw [(cf_rd (C.fr f1 (by decide))).2.1]
        simp only [Option.bind_some]
        obtain ⟨h2, e2, B2, f2⟩ := d_month B1 Ib
        rw [if_pos (bk_rd B1).1, e2]
        simp only [Option.bind_some]
        rw [show nI i + nI 1 = nI (i + 1) from nI_add i 1]
        obtain ⟨h3, e3, B3, f3⟩ := ih (i + 1) _ y h2 (by omega) (by omega) hy (inv_month Ib) ((C.fr f1 (by decide)).fr f2 (by decide)) B2
        exact ⟨h3, e3, B3, (f1.trans f2).trans f3⟩
      by_cases c1 : (N 12).testBit (y % 6) = true
      · rw [if_pos c1, if_neg (by rw [c1]; simp)]
        exact hbuy
      · rw [if_neg c1]
        by_cases c2 : N (y % 6) ≤ y / 6 % 10
        · rw [if_pos c2, if_neg (by omega)]
          exact hbuy
        · rw [if_neg c2, if_pos ⟨by simpa using c1, by omega⟩]
          have Ie := inv_end I hk
          obtain ⟨h1, e1, B1, f1⟩ := d_end B I hk (by simpa using c1)
          rw [e1]
          clear I2 hs hbuy
          generalize sp_end N (y % 6) = E at Ie B1 ⊢
          simp only [Option.bind_some]
          unfold f_X1_drawMonths_115
          rw [(cf_rd (C.fr f1 (by decide))).2.1]
          simp only [Option.bind_some]
          obtain ⟨h2, e2, B2, f2⟩ := d_month B1 Ie
          rw [if_pos (bk_rd B1).1, e2]
          simp only [Option.bind_some]
          rw [nI_1]
          obtain ⟨h3, e3, B3, f3⟩ := ih (i + 1) _ y h2 (by omega) (by omega) hy (inv_month Ie) ((C.fr f1 (by decide)).fr f2 (by decide)) B2
          exact ⟨h3, e3, B3, (f1.trans f2).trans f3⟩
theorem m_year {c d e : Int32} {u : Int64} {M : Nat} (hM : M < 1000) (w : Int32) : ∀ (n i : Nat) (N : Nat → Nat) (x : Nat) (h : gi_H) (pd : Int32) (sh : Bool), i ≤ M → M - i < n → x < 65537 → inv N → go h 31 6 (mf ns np pd sh c d e u) → ga h 33 63 N → ∃ h', f_X6_year_43 n h 31 (nI M) w (nI x) (nI i) = f_X6_year_148 h' 31 w ∧ ga h' 33 63 (yrs (M - i) N x) ∧ (∃ pd sh, go h' 31 6 (mf ns np pd sh c d e u)) ∧ gfr [31, 33] h h' := by
  intro n
  induction n with
  | zero => intro i N x h pd sh _ hn; omega
  | succ n ih =>
    intro i N x h pd sh hi hn hx I G A
    have mb : ∀ j ∈ [33], j ∈ [31, 33] := by decide
    unfold f_X6_year_43
    rw [n_ifle (nI i) i rfl (by omega) (by omega)]
    by_cases ce : M ≤ i
    · rw [if_pos ce, show M - i = 0 by omega]
      exact ⟨h, rfl, A, ⟨_, _, G⟩, gfr.refl _ _⟩
    · have hy := nx_lt x
      have hs : yrs (M - i) N x = yrs (M - (i + 1)) (yst N (nx x)) (nx x) := by
        rw [show M - i = (M - (i + 1)) + 1 by omega]; rfl
      rw [if_neg ce, y_nx hx, hs]
      unfold yst
      clear hs
      generalize nx x = y at hy ⊢
      have hk : y % 6 < 6 := Nat.mod_lt _ (by omega)
      have i5 := I.2.2.2.2.1
      have j1 := I.1 _ hk
      rw [y_6 hy, y_10 hy, (mf_rd G).2.2.1]
      simp only [Option.bind_some]
      rw [ga_rl A (I := 12) (i := 12) rfl (by omega) (by decide), ga_rd A (by omega) (by decide), if_pos (go_is G)]
      simp only [Option.bind_some]
      rw [x6_has (by omega) (by omega)]
      simp only [Option.bind_some]
      rw [n_ifb, n_ifle _ (y / 6 % 10) rfl (by omega) (by omega)]
      have hbuy : ∃ h', f_X6_year_111 (f_X6_year_43 n) h 31 (nI M) w (nI y) (nI i) (nI (y % 6)) = f_X6_year_148 h' 31 w ∧ ga h' 33 63 (yrs (M - (i + 1)) (sp_month (sp_buy N (y / 60 % 4) (y % 6) 1 (1 + y / 240 % 9)).2).2 y) ∧ (∃ pd sh, go h' 31 6 (mf ns np pd sh c d e u)) ∧ gfr [31, 33] h h' := by
        have Ib := inv_buy I (b := y / 60 % 4) (k := y % 6) (c := 1) (t := 1 + y / 240 % 9) (Nat.mod_lt _ (by omega)) hk (by omega) (by omega)
        unfold f_X6_year_111 f_X6_year_137
        rw [y_4 hy, y_9 hy, if_pos (go_is G)]
        obtain ⟨h1, e1, A1, f1⟩ := m_buy G A I (b := y / 60 % 4) (x := y % 6) (c := 1) (t := 1 + y / 240 % 9) (Nat.mod_lt _ (by omega)) hk (by omega) (by omega) (by omega)
        rw [show (1 : Int32) = nI 1 from rfl, e1]
        simp only [Option.bind_some]
        have G1 := G.fr f1 (by decide)
        obtain ⟨h2, e2, A2, f2⟩ := m_month G1 A1 Ib
        rw [if_pos (go_is G1), e2]
        simp only [Option.bind_some]
        rw [show nI i + nI 1 = nI (i + 1) from nI_add i 1]
        obtain ⟨h3, e3, A3, G3, f3⟩ := ih (i + 1) _ y h2 pd sh (by omega) (by omega) hy (inv_month Ib) (G1.fr f2 (by decide)) A2
        exact ⟨h3, e3, A3, G3, ((f1.mono mb).trans (f2.mono mb)).trans f3⟩
      by_cases c1 : (N 12).testBit (y % 6) = true
      · rw [if_pos c1, if_neg (by rw [c1]; simp)]
        exact hbuy
      · rw [if_neg c1]
        by_cases c2 : N (y % 6) ≤ y / 6 % 10
        · rw [if_pos c2, if_neg (by omega)]
          exact hbuy
        · rw [if_neg c2, if_pos ⟨by simpa using c1, by omega⟩]
          have Ie := inv_end I hk
          obtain ⟨h1, e1, G1, A1, f1⟩ := m_end G A I hk
          rw [e1]
          clear hbuy
          generalize sp_sh (gu N 12 (N 12 ||| 2 ^ (y % 6))) (y % 6) 12 = SS at G1
          generalize sp_end N (y % 6) = E at Ie G1 A1 ⊢
          simp only [Option.bind_some]
          unfold f_X6_year_137
          obtain ⟨h2, e2, A2, f2⟩ := m_month G1 A1 Ie
          rw [if_pos (go_is G1), e2]
          simp only [Option.bind_some]
          rw [nI_1]
          obtain ⟨h3, e3, A3, G3, f3⟩ := ih (i + 1) _ y h2 _ _ (by omega) (by omega) hy (inv_month Ie) (G1.fr f2 (by decide)) A2
          exact ⟨h3, e3, A3, G3, (f1.trans (f2.mono mb)).trans f3⟩
theorem d_all {k : Nat} (B : bk h k N ns sg) : f_X0_allCash h k = some (nI (N 6 + N 7 + N 8 + N 9)) := by
  obtain ⟨ri, s0, s1, s2, s3, s4, s5, q6, q7, q8, q9, q10, q11, q12, q13, q14, a6, a7, -⟩ := bk_rd B
  have st : ∀ n i s, i < 4 → f_X0_allCash_4 h (n + 1) k (nI s) (nI i) = f_X0_allCash_4 h n k (nI (s + N (6 + i))) (nI (i + 1)) := by
    intro n i s hi
    conv => lhs; unfold f_X0_allCash_4
    rw [n_ifge 4 4 rfl (by omega) (by decide), if_neg (by omega), q7]
    simp only [Option.bind_some]
    rw [a7 i hi]
    simp only [Option.bind_some]
    rw [nI_add, nI_1]
  unfold f_X0_allCash
  show f_X0_allCash_4 h 5000 k (nI 0) (nI 0) = _
  rw [st _ 0 _ (by omega), st _ 1 _ (by omega), st _ 2 _ (by omega), st _ 3 _ (by omega)]
  conv => lhs; unfold f_X0_allCash_4
  rw [n_ifge 4 4 rfl (by omega) (by decide), if_pos (by omega), Nat.zero_add]
theorem k_year (K : Core h c0 N ns sg np P im IM) (S : Scr h ns np) (x y z : Int32) : WW h c0 (fun h => f_X5_year h 1 x y z) (fun h => f_X6_year h 31 x y z) := by
  obtain ⟨⟨a1, b1, c1, d1, e1, C⟩, ⟨x1, y1, z1, T⟩, -, -, -, ⟨a, b, c, d, e, u, G⟩, ⟨gn, A⟩, -⟩ := id S
  rcases ar_in 0 9999 0 9999 rfl rfl (by decide) (by decide) x with ⟨n1, n2⟩ | ⟨sd, -, hsd, rfl, n1, n2⟩
  · exact WW.same K S (v := -2) (by unfold f_X5_year; rw [n1]; rfl) (by unfold f_X6_year; rw [n2]; rfl)
  rcases ar_in 1 60 1 60 rfl rfl (by decide) (by decide) y with ⟨m1, m2⟩ | ⟨M, -, hM, rfl, m1, m2⟩
  · exact WW.same K S (v := -2) (by unfold f_X5_year; rw [n1, m1]; rfl) (by unfold f_X6_year; rw [n2, m2]; rfl)
  rcases ar_in 0 2 0 2 rfl rfl (by decide) (by decide) z with ⟨p1, p2⟩ | ⟨w, -, hw, rfl, p1, p2⟩
  · exact WW.same K S (v := -2) (by unfold f_X5_year; rw [n1, m1, p1]; rfl) (by unfold f_X6_year; rw [n2, m2, p2]; rfl)
  obtain ⟨ci, cc1, cc2, cc3, -⟩ := cls_rd K
  obtain ⟨h1, e1, T1, f1⟩ := d_copy T K.bok (by decide)
  have C1 := C.fr f1 (by decide)
  obtain ⟨h2, e2, B2, f2⟩ := c_year (M := M) (by omega) gi_F 0 N sd h1 (by omega) (by unfold gi_F; omega) (by omega) K.iv C1 T1
  have F2 : gfr crl h h2 := (f1.mono (by decide)).trans (f2.mono (by decide))
  have K2 := K.fr F2 (by decide)
  have G2 := G.fr F2 (by decide)
  have C2 := C1.fr f2 (by decide)
  obtain ⟨h3, e3, A3, f3⟩ := m_asNow G2 K2.mbk (A.fr F2 (by decide))
  obtain ⟨h4, e4, A4, ⟨q1, q2, G4⟩, f4⟩ := m_year (M := M) (by omega) (nI w) gi_F 0 N sd h3 a b (by omega) (by unfold gi_F; omega) (by omega) K.iv (G2.fr f3 (by decide)) A3
  have I4 := inv_yrs M N sd K.iv
  have F4 : gfr [31, 33] h2 h4 := (f3.mono (by decide)).trans f4
  have FF : gfr (crl ++ [31, 33]) h h4 := (F2.mono (by decide)).trans (F4.mono (by decide))
  have fin : SS h4 c0 := ⟨N, ns, sg, np, P, im, IM, K2.fr F4 (by decide), S.read FF (by decide) ⟨_, _, _, _, _, C2.fr F4 (by decide)⟩ ⟨_, _, _, B2.fr F4 (by decide)⟩ ⟨_, _, _, _, _, _, G4⟩ ⟨_, A4⟩⟩
  rw [Nat.sub_zero] at A4 B2
  generalize yrs M N sd = Y at A4 B2 I4
  have i5 := I4.2.2.2.2.1
  have lhs : f_X5_year h 1 (nI sd) (nI M) (nI w) = f_X5_year h 1 (nI sd) (nI M) (nI w) := rfl
  conv at lhs => rhs; unfold f_X5_year f_X1_drawMonths
  rw [n1, m1, p1, cc2, cc1] at lhs
  simp only [Option.bind_some] at lhs
  rw [if_neg i1_ne0, if_neg i1_ne0, if_neg i1_ne0, if_pos (go_is C), (cf_rd C).2.1] at lhs
  simp only [Option.bind_some] at lhs
  rw [if_pos (bk_rd T).1, e1] at lhs
  simp only [Option.bind_some] at lhs
  rw [show f_X1_drawMonths_14 gi_F h1 12 (nI M) (nI sd) 0 = some h2 from e2] at lhs
  simp only [Option.bind_some] at lhs
  rw [go_fR K2.cls (k := 1) (x := 12) rfl] at lhs
  simp only [Option.bind_some] at lhs
  rw [(cf_rd C2).2.1] at lhs
  simp only [Option.bind_some] at lhs
  rw [if_pos (bk_rd B2).1, if_pos (bk_rd B2).1, d_all B2, d_lives B2 i5, (bk_rd B2).2.2.1] at lhs
  simp only [Option.bind_some] at lhs
  have rhs : f_X6_year h2 31 (nI sd) (nI M) (nI w) = f_X6_year h2 31 (nI sd) (nI M) (nI w) := rfl
  conv at rhs => rhs; unfold f_X6_year
  rw [n2, m2, p2, if_pos (go_is G2), e3] at rhs
  simp only [Option.bind_some] at rhs
  rw [if_neg i1_ne0, if_neg i1_ne0, if_neg i1_ne0, show f_X6_year_43 gi_F h3 31 (nI M) (nI w) (nI sd) 0 = f_X6_year_148 h4 31 (nI w) from e4] at rhs
  unfold f_X6_year_148 at rhs
  rw [(mf_rd G4).2.2.1] at rhs
  simp only [Option.bind_some] at rhs
  rw [ga_rl A4 (I := 6) (i := 6) rfl (by omega) (by decide), ga_rl A4 (I := 7) (i := 7) rfl (by omega) (by decide), ga_rl A4 (I := 8) (i := 8) rfl (by omega) (by decide), ga_rl A4 (I := 9) (i := 9) rfl (by omega) (by decide), ga_rl A4 (I := 10) (i := 10) rfl (by omega) (by decide), ga_rl A4 (I := 12) (i := 12) rfl (by omega) (by decide)] at rhs
  simp only [Option.bind_some] at rhs
  rw [bits4 _ (by omega)] at rhs
  simp only [Option.bind_some] at rhs
  rw [nI_add, nI_add, nI_add] at rhs
  refine ⟨if nI w = 0 then nI (Y 6 + Y 7 + Y 8 + Y 9) else if nI w = 1 then nI (Y 10) else 6 - nI (pc (Y 12)), h2, h4, ?_, K2.c0, go_is G2, ?_, fin⟩
  · show f_X5_year h 1 _ _ _ = _
    rw [lhs]
    split
    · rfl
    · split <;> rfl
  · show f_X6_year h2 31 _ _ _ = _
    rw [rhs]
    split
    · rfl
    · split <;> rfl
end YEAR
