/-! MORE PLAIN CALLS -/
section PLAIN2
variable {h : gi_H} {c0 : va_E} {N : Nat → Nat} {ns : Nat} {sg : Nat → Nat} {np : Nat} {P : Nat → Nat} {im : Nat → gi_Im} {IM : Nat → Nat}
theorem k_policy (K : Core h c0 N ns sg np P im IM) (S : Scr h ns np) (x y : Int32) : RR (f_X5_policy h 1 x y) (f_X6_policy h 31 x y) := by
  obtain ⟨-, -, -, -, -, ⟨a, b, c, d, e, u, G⟩, -⟩ := id S
  obtain ⟨ci, c1, -⟩ := cls_rd K
  obtain ⟨ri, r0, r1, r2, r3, r4, r5, q6, q7, q8, q9, q10, q11, q12, q13, q14, a6, a7, a8, a9, a10, a11, -⟩ := bk_rd K.bok
  have i7 := K.iv.2.2.2.2.2.2.1
  unfold RR f_X5_policy f_X6_policy f_X6_isPolicy
  rw [c1, if_pos (go_is G), (mf_rd G).2.1]
  simp only [Option.bind_some]
  rw [if_pos ri]
  rcases ar_in 0 11 0 11 rfl rfl (by decide) (by decide) x with ⟨n1, n2⟩ | ⟨p, -, hp, rfl, n1, n2⟩
  · refine ⟨-1, ?_, ?_⟩
    · unfold f_X0_stands
      rw [n1]
      rfl
    · rw [n2]
      rfl
  rw [d_stands K.bok i7 (by omega), n2, ga_rl K.mbk (I := 14) (i := 14) rfl (by omega) (by decide)]
  simp only [Option.bind_some]
  rw [if_neg i1_ne0, x6_has (by omega) (by omega)]
  simp only [Option.bind_some]
  rw [n_ifb, n_ifb]
  by_cases t : (N 14).testBit p = true
  · rw [if_pos t, if_pos t, q8, q9, q10, q11]
    simp only [Option.bind_some]
    rw [a8 p (by omega), a9 p (by omega), a10 p (by omega), a11 p (by omega), if_neg i1_ne0]
    simp only [Option.bind_some]
    rcases ar_in 0 3 0 3 rfl rfl (by decide) (by decide) y with ⟨m1, m2⟩ | ⟨v, -, hv, rfl, m1, m2⟩
    · rw [m2]
      have hy : ∀ j : Nat, j ≤ 3 → ¬ y = nI j := by
        intro j hj z
        subst z
        rw [in_nI 0 3 rfl rfl (by decide) (Nat.zero_le j) hj] at m1
        cases m1
      refine ⟨-2, ?_, rfl⟩
      rw [if_neg (show ¬ y = 0 from hy 0 (by omega)), if_neg (show ¬ y = 1 from hy 1 (by omega)), if_neg (show ¬ y = 2 from hy 2 (by omega)), if_neg (show ¬ y = 3 from hy 3 (by omega))]
    · rw [m2]
      simp only [Option.bind_some]
      rw [if_neg i1_ne0, n_15, nI_add, ga_rd K.mbk (by omega) (by decide)]
      rcases (show v = 0 ∨ v = 1 ∨ v = 2 ∨ v = 3 by omega) with rfl | rfl | rfl | rfl
      · exact ⟨nI (N (15 + 4 * p)), by rw [if_pos (show nI 0 = 0 from rfl)], rfl⟩
      · exact ⟨nI (N (16 + 4 * p)), by rw [if_neg (show ¬ nI 1 = 0 by decide), if_pos (show nI 1 = 1 from rfl)], by rw [show 15 + 4 * p + 1 = 16 + 4 * p by omega]; rfl⟩
      · exact ⟨nI (N (17 + 4 * p)), by rw [if_neg (show ¬ nI 2 = 0 by decide), if_neg (show ¬ nI 2 = 1 by decide), if_pos (show nI 2 = 2 from rfl)], by rw [show 15 + 4 * p + 2 = 17 + 4 * p by omega]; rfl⟩
      · exact ⟨nI (N (18 + 4 * p)), by rw [if_neg (show ¬ nI 3 = 0 by decide), if_neg (show ¬ nI 3 = 1 by decide), if_neg (show ¬ nI 3 = 2 by decide), if_pos (show nI 3 = 3 from rfl)], by rw [show 15 + 4 * p + 3 = 18 + 4 * p by omega]; rfl⟩
  · rw [if_neg t, if_neg t]
    exact ⟨-1, rfl, rfl⟩
theorem k_price (K : Core h c0 N ns sg np P im IM) (S : Scr h ns np) (x y z : Int32) : RR (f_X5_price h 1 x y z) (f_X6_price h 31 x y z) := by
  obtain ⟨-, -, -, -, -, ⟨a, b, c, d, e, u, G⟩, -⟩ := id S
  obtain ⟨ci, c1, -⟩ := cls_rd K
  obtain ⟨ri, r0, r1, r2, r3, r4, r5, q6, q7, q8, q9, q10, q11, q12, q13, q14, a6, a7, -⟩ := bk_rd K.bok
  have i5 := K.iv.2.2.2.2.1
  unfold RR f_X5_price f_X6_price
  rcases ar_life x with ⟨l1, l2⟩ | ⟨k, hk, rfl, l1, l2⟩
  · rw [l1, l2]; exact ⟨-1, rfl, rfl⟩
  rw [l1, l2]
  simp only [Option.bind_some]
  rw [if_neg i1_ne0, if_neg i1_ne0]
  rcases ar_in 1 9 1 9 rfl rfl (by decide) (by decide) y with ⟨n1, n2⟩ | ⟨v, hv0, hv, rfl, n1, n2⟩
  · rw [n1, n2]; exact ⟨-2, rfl, rfl⟩
  rw [n1, n2]
  simp only [Option.bind_some]
  rw [if_neg i1_ne0, if_neg i1_ne0]
  rcases ar_in 1 9 1 9 rfl rfl (by decide) (by decide) z with ⟨n1, n2⟩ | ⟨t, ht0, ht, rfl, n1, n2⟩
  · rw [n1, n2]; exact ⟨-2, rfl, rfl⟩
  rw [n1, n2, c1, (mf_rd G).2.1]
  simp only [Option.bind_some]
  have j1 := K.iv.1 k hk
  rw [if_neg i1_ne0, if_neg i1_ne0, if_pos ri, d_ended K.bok i5 (by omega), ga_rl K.mbk (I := 12) (i := 12) rfl (by omega) (by decide), q6]
  simp only [Option.bind_some]
  rw [x6_has (by omega) (by omega), a6 k hk, ga_rd K.mbk (i := k) (by omega) (by decide)]
  simp only [Option.bind_some]
  rw [n_10m, price_eq (by omega) (by omega) (by omega), x6_price_eq (by omega) (by omega) (by omega)]
  simp only [Option.bind_some]
  rw [n_ifb]
  by_cases q : (N 12).testBit k = true
  · rw [if_pos q]; exact ⟨-3, rfl, rfl⟩
  · rw [if_neg q]; exact ⟨_, rfl, rfl⟩
theorem k_seen (K : Core h c0 N ns sg np P im IM) (S : Scr h ns np) (x y z : Int32) : WW h c0 (fun h => f_X5_seen h 1 x y z) (fun h => f_X6_seen h 31 x y z) := by
  obtain ⟨-, -, -, -, -, ⟨a, b, c, d, e, u, G⟩, -⟩ := id S
  rcases ar_buyer x with ⟨l1, l2⟩ | ⟨b', hb, rfl, l1, l2⟩
  · exact WW.same K S (v := -1) (by unfold f_X5_seen; rw [l1]; rfl) (by unfold f_X6_seen; rw [l2]; rfl)
  rcases ar_life y with ⟨m1, m2⟩ | ⟨k, hk, rfl, m1, m2⟩
  · exact WW.same K S (v := -1) (by unfold f_X5_seen; rw [l1, m1]; rfl) (by unfold f_X6_seen; rw [l2, m2]; rfl)
  rcases ar_in 0 999 0 999 rfl rfl (by decide) (by decide) z with ⟨n1, n2⟩ | ⟨g', -, hg, rfl, n1, n2⟩
  · exact WW.same K S (v := -2) (by unfold f_X5_seen; rw [l1, m1, n1]; rfl) (by unfold f_X6_seen; rw [l2, m2, n2]; rfl)
  obtain ⟨ci, c1, -⟩ := cls_rd K
  obtain ⟨ri, r0, r1, r2, r3, r4, r5, q6, q7, q8, q9, q10, q11, q12, q13, q14, -⟩ := bk_rd K.bok
  have hns := K.sgl.1
  obtain ⟨g, g0, g1, g2, g3, -⟩ := mf_rd G
  by_cases t : ns = 8
  · subst t
    refine WW.same K S (v := -4) ?_ ?_
    · show f_X5_seen h 1 _ _ _ = _
      unfold f_X5_seen f_X0_note
      rw [l1, m1, n1, c1]
      simp only [Option.bind_some]
      rw [if_neg i1_ne0, if_neg i1_ne0, if_neg i1_ne0, if_pos ri, r5]
      simp only [Option.bind_some]
      rw [w_out (l := 0) (u := 7) (Or.inr (by show nI 7 < nI 8; rw [nI_ltI (by decide) (by decide)]; omega))]
      rfl
    · show f_X6_seen h 31 _ _ _ = _
      unfold f_X6_seen
      rw [l2, m2, n2, g2]
      simp only [Option.bind_some]
      rw [if_neg i1_ne0, if_neg i1_ne0, if_neg i1_ne0, if_pos (show nI 8 = 8 from rfl)]
  · obtain ⟨h1, e1, B1, f1⟩ := bk_w12 K.bok (i := ns) (by omega) b'
    obtain ⟨h2, e2, B2, f2⟩ := bk_w13 B1 (i := ns) (by omega) k
    obtain ⟨h3, e3, B3, f3⟩ := bk_w14 B2 (i := ns) (by omega) g'
    obtain ⟨h4, e4, B4, f4⟩ := bk_w5 B3 (ns + 1)
    have F4 : gfr (bkl 2) h h4 := ((f1.trans f2).trans f3).trans f4
    have G4 := G.fr F4 (by decide)
    have Q4 := K.msg.fr F4 (by decide)
    have x0 : (3 : Int32) * nI ns = nI (3 * ns) := pk_mul 3 ns
    have x1 : (3 : Int32) * nI ns + 1 = nI (3 * ns + 1) := by rw [x0, nI_1]
    have x2 : (3 : Int32) * nI ns + 2 = nI (3 * ns + 2) := by rw [x0]; exact nI_add _ 2
    obtain ⟨h5, e5, Q5, f5⟩ := ga_wl Q4 x0 (by omega) (by decide) b'
    obtain ⟨h6, e6, Q6, f6⟩ := ga_wl Q5 x1 (by omega) (by decide) k
    obtain ⟨h7, e7, Q7, f7⟩ := ga_wl Q6 x2 (by omega) (by decide) g'
    have F7 : gfr [34] h4 h7 := (f5.trans f6).trans f7
    obtain ⟨h8, e8, G8, f8⟩ := mf_w2 (G4.fr F7 (by decide)) (ns + 1)
    obtain ⟨g, g0, g1, g2, g3, -⟩ := mf_rd G4
    have F8 : gfr (31 :: 32 :: 34 :: bkl 2) h h8 := ((F4.mono (by decide)).trans (F7.mono (by decide))).trans (f8.mono (by decide))
    refine ⟨nI (ns + 1), h4, h8, ?_, by rw [F4.2 0 (by decide)]; exact K.c0, g, ?_, N, ns + 1, gu (gu (gu sg (3 * ns) b') (3 * ns + 1) k) (3 * ns + 2) g', np, P, im, IM, ?_, ?_⟩
    · show f_X5_seen h 1 _ _ _ = _
      unfold f_X5_seen f_X0_note
      rw [l1, m1, n1, c1]
      simp only [Option.bind_some]
      rw [if_neg i1_ne0, if_neg i1_ne0, if_neg i1_ne0, if_pos ri, r5]
      simp only [Option.bind_some]
      rw [in_nI 0 7 rfl rfl (by decide) (Nat.zero_le ns) (show ns ≤ 7 by omega), q12]
      simp only [Option.bind_some]
      rw [if_neg i1_ne0, e1]
      simp only [Option.bind_some]
      obtain ⟨-, -, -, -, -, -, s5, -, -, -, -, -, -, -, s13, -⟩ := bk_rd B1
      rw [s13, s5]
      simp only [Option.bind_some]
      rw [e2]
      simp only [Option.bind_some]
      obtain ⟨-, -, -, -, -, -, s5, -, -, -, -, -, -, -, -, s14, -⟩ := bk_rd B2
      rw [s14, s5]
      simp only [Option.bind_some]
      rw [e3]
      simp only [Option.bind_some]
      obtain ⟨-, -, -, -, -, -, s5, -⟩ := bk_rd B3
      rw [s5]
      simp only [Option.bind_some]
      rw [nI_1, e4]
      simp only [Option.bind_some]
      rw [if_neg i1_ne0, go_fR (K.cls.fr F4 (by decide)) (k := 0) (x := 2) rfl]
      simp only [Option.bind_some]
      obtain ⟨-, -, -, -, -, -, s5, -⟩ := bk_rd B4
      rw [s5]
      rfl
    · show f_X6_seen h4 31 _ _ _ = _
      unfold f_X6_seen
      rw [l2, m2, n2, g2, g3]
      simp only [Option.bind_some]
      rw [if_neg i1_ne0, if_neg i1_ne0, if_neg i1_ne0, n_ifc 8 8 rfl (by omega) (by decide), if_neg t, e5]
      simp only [Option.bind_some]
      have G5 := G4.fr f5 (by decide)
      rw [(mf_rd G5).2.2.2.2.1, (mf_rd G5).2.2.2.1]
      simp only [Option.bind_some]
      rw [e6]
      simp only [Option.bind_some]
      have G6 := G5.fr f6 (by decide)
      rw [(mf_rd G6).2.2.2.2.1, (mf_rd G6).2.2.2.1]
      simp only [Option.bind_some]
      rw [e7]
      simp only [Option.bind_some]
      have G7 := G6.fr f7 (by decide)
      rw [(mf_rd G7).2.2.2.1]
      simp only [Option.bind_some]
      rw [nI_1, e8]
      simp only [Option.bind_some]
      rw [(mf_rd G8).2.2.2.1]
      rfl
    · refine K.put F8 ((B4.fr F7 (by decide)).fr f8 (by decide)) (((K.mbk.fr F4 (by decide)).fr F7 (by decide)).fr f8 (by decide)) (Q7.fr f8 (by decide)) K.iv ⟨by omega, ?_⟩
      intro i hi
      obtain ⟨w1, w2, w3⟩ := K.sgl.2 i hi
      unfold gu
      refine ⟨?_, ?_, ?_⟩
      · rw [if_neg (by omega), if_neg (by omega)]; split <;> omega
      · rw [if_neg (by omega)]; split
        · omega
        · rw [if_neg (by omega)]; exact w2
      · split
        · omega
        · rw [if_neg (by omega), if_neg (by omega)]; exact w3
    · exact S.fr31 F8 (by decide) ⟨_, _, _, _, _, _, G8⟩
theorem k_forget (K : Core h c0 N ns sg np P im IM) (S : Scr h ns np) : WW h c0 (fun h => f_X5_forget h 1) (fun h => f_X6_forget h 31) := by
  obtain ⟨-, -, -, -, -, ⟨a, b, c, d, e, u, G⟩, -⟩ := id S
  obtain ⟨ci, c1, -⟩ := cls_rd K
  obtain ⟨ri, r0, r1, r2, r3, r4, r5, -⟩ := bk_rd K.bok
  obtain ⟨h4, e4, B4, f4⟩ := bk_w5 K.bok 0
  have G4 := G.fr f4 (by decide)
  obtain ⟨h8, e8, G8, f8⟩ := mf_w2 G4 0
  have F8 : gfr (31 :: 32 :: 34 :: bkl 2) h h8 := (f4.mono (by decide)).trans (f8.mono (by decide))
  refine ⟨nI ns, h4, h8, ?_, by rw [f4.2 0 (by decide)]; exact K.c0, go_is G4, ?_, N, 0, sg, np, P, im, IM, ?_, ?_⟩
  · show f_X5_forget h 1 = _
    unfold f_X5_forget
    rw [c1]
    simp only [Option.bind_some]
    rw [r5, show (0 : Int32) = nI 0 from rfl, e4]
    rfl
  · show f_X6_forget h4 31 = _
    unfold f_X6_forget
    rw [(mf_rd G4).2.2.2.1, show (0 : Int32) = nI 0 from rfl, e8]
    rfl
  · exact K.put F8 (B4.fr f8 (by decide)) ((K.mbk.fr f4 (by decide)).fr f8 (by decide)) ((K.msg.fr f4 (by decide)).fr f8 (by decide)) K.iv ⟨by omega, K.sgl.2⟩
  · exact S.fr31 F8 (by decide) ⟨_, _, _, _, _, _, G8⟩
end PLAIN2
