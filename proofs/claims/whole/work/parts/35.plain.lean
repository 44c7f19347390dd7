/-! THE PLAIN CALLS: both answer alike -/
def pc (a : Nat) : Nat := bN a 0 + bN a 1 + bN a 2 + bN a 3 + bN a 4 + bN a 5 + bN a 6 + bN a 7 + bN a 8 + bN a 9 + bN a 10 + bN a 11
theorem pc6 : ∀ a, a < 64 → f_J6_bitCount_0f7a4 (nI a) = some (nI (pc a)) := by decide +kernel
theorem bits4 (a : Nat) (ha : a < 2 ^ 31) : f_X6_bits (nI a) = some (nI (pc a)) := by
  have st : ∀ n k s, k < 12 → f_X6_bits_4 (n + 1) (nI a) (nI s) (nI k) = f_X6_bits_4 n (nI a) (nI (s + bN a k)) (nI (k + 1)) := by
    intro n k s hk
    conv => lhs; unfold f_X6_bits_4
    rw [n_ifge 12 12 rfl (by omega) (by decide), if_neg (by omega), n_bit ha (by omega), nI_add, nI_1]
  unfold f_X6_bits
  show f_X6_bits_4 5000 (nI a) (nI 0) (nI 0) = _
  rw [st _ 0 _ (by omega), st _ 1 _ (by omega), st _ 2 _ (by omega), st _ 3 _ (by omega), st _ 4 _ (by omega), st _ 5 _ (by omega), st _ 6 _ (by omega), st _ 7 _ (by omega), st _ 8 _ (by omega), st _ 9 _ (by omega), st _ 10 _ (by omega), st _ 11 _ (by omega)]
  conv => lhs; unfold f_X6_bits_4
  rw [n_ifge 12 12 rfl (by omega) (by decide), if_pos (by omega)]
  unfold pc
  rw [Nat.zero_add]
theorem d_lives {h : gi_H} {k : Nat} {N : Nat → Nat} {ns : Nat} {sg : Nat → Nat} (H : bk h k N ns sg) (h12 : N 12 < 64) : f_X0_livesLeft h k = some (6 - nI (pc (N 12))) := by
  unfold f_X0_livesLeft
  rw [(bk_rd H).2.2.2.1]
  simp only [Option.bind_some]
  rw [pc6 _ h12]
  rfl
section PLAIN
variable {h : gi_H} {c0 : va_E} {N : Nat → Nat} {ns : Nat} {sg : Nat → Nat} {np : Nat} {P : Nat → Nat} {im : Nat → gi_Im} {IM : Nat → Nat}
theorem k_heir (K : Core h c0 N ns sg np P im IM) (S : Scr h ns np) (x : Int32) : WW h c0 (fun h => f_X5_heir h 1 x) (fun h => f_X6_heir h 31 x) := by
  obtain ⟨-, -, -, -, -, ⟨a, b, c, d, e, u, G⟩, -⟩ := id S
  rcases ar_life x with ⟨l1, l2⟩ | ⟨k, hk, rfl, l1, l2⟩
  · exact WW.same K S (v := -1) (by unfold f_X5_heir; rw [l1]; rfl) (by unfold f_X6_heir; rw [l2]; rfl)
  have i5 := K.iv.2.2.2.2.1
  obtain ⟨ci, c1, -⟩ := cls_rd K
  obtain ⟨ri, r0, r1, r2, -⟩ := bk_rd K.bok
  by_cases t : (N 12).testBit k = true
  · have hcl := clr_le (N 12) k
    obtain ⟨h1, e1, B1, f1⟩ := bk_w2 K.bok (clr (N 12) k)
    have G1 := G.fr f1 (by decide)
    have M1 := K.mbk.fr f1 (by decide)
    obtain ⟨h2, e2, M2, f2⟩ := ga_wl M1 (I := 12) (i := 12) rfl (by omega) (by decide) (clr (N 12) k)
    have G2 := G1.fr f2 (by decide)
    refine ⟨6 - nI (pc (clr (N 12) k)), h1, h2, ?_, by rw [f1.2 0 (by decide)]; exact K.c0, go_is G1, ?_, gu N 12 (clr (N 12) k), ns, sg, np, P, im, IM, ?_, ?_⟩
    · show f_X5_heir h 1 _ = _
      unfold f_X5_heir
      rw [l1, c1]
      simp only [Option.bind_some]
      rw [if_neg i1_ne0, if_pos ri, d_ended K.bok i5 (by omega), r2]
      simp only [Option.bind_some]
      rw [n_ifb, if_pos t, n_clr (by omega), e1]
      simp only [Option.bind_some]
      rw [go_fR (K.cls.fr f1 (by decide)) (k := 0) (x := 2) rfl]
      simp only [Option.bind_some]
      rw [if_pos (bk_rd B1).1, d_lives B1 (by rw [gu_self]; omega), gu_self]
      rfl
    · show f_X6_heir h1 31 _ = _
      unfold f_X6_heir
      rw [l2, (mf_rd G1).2.1]
      simp only [Option.bind_some]
      rw [if_neg i1_ne0, ga_rl M1 (I := 12) (i := 12) rfl (by omega) (by decide)]
      simp only [Option.bind_some]
      rw [x6_has (by omega) (by omega)]
      simp only [Option.bind_some]
      rw [n_ifb, if_pos t, n_clr (by omega), e2]
      simp only [Option.bind_some]
      rw [(mf_rd G2).2.1]
      simp only [Option.bind_some]
      rw [ga_rl M2 (I := 12) (i := 12) rfl (by omega) (by decide), gu_self]
      simp only [Option.bind_some]
      rw [bits4 _ (by omega)]
      rfl
    · have F := (f1.mono (l' := 31 :: 32 :: 34 :: bkl 2) (by decide)).trans (f2.mono (by decide))
      exact K.put F (B1.fr f2 (by decide)) M2 ((K.msg.fr f1 (by decide)).fr f2 (by decide)) (inv_ended K.iv (by omega)) K.sgl
    · exact (S.fr f1 (by decide)).fr f2 (by decide)
  · refine WW.same K S (v := -3) ?_ ?_
    · show f_X5_heir h 1 _ = _
      unfold f_X5_heir
      rw [l1, c1]
      simp only [Option.bind_some]
      rw [if_neg i1_ne0, if_pos ri, d_ended K.bok i5 (by omega)]
      simp only [Option.bind_some]
      rw [n_ifb, if_neg t]
    · show f_X6_heir h 31 _ = _
      unfold f_X6_heir
      rw [l2, (mf_rd G).2.1]
      simp only [Option.bind_some]
      rw [if_neg i1_ne0, ga_rl K.mbk (I := 12) (i := 12) rfl (by omega) (by decide)]
      simp only [Option.bind_some]
      rw [x6_has (by omega) (by omega)]
      simp only [Option.bind_some]
      rw [n_ifb, if_neg t]
theorem k_cash (K : Core h c0 N ns sg np P im IM) (S : Scr h ns np) (x y : Int32) : WW h c0 (fun h => f_X5_cash h 1 x y) (fun h => f_X6_cash h 31 x y) := by
  obtain ⟨-, -, -, -, -, ⟨a, b, c, d, e, u, G⟩, -⟩ := id S
  rcases ar_buyer x with ⟨l1, l2⟩ | ⟨k, hk, rfl, l1, l2⟩
  · exact WW.same K S (v := -1) (by unfold f_X5_cash; rw [l1]; rfl) (by unfold f_X6_cash; rw [l2]; rfl)
  rcases ar_in 0 999 0 999 rfl rfl (by decide) (by decide) y with ⟨n1, n2⟩ | ⟨v, -, hv, rfl, n1, n2⟩
  · exact WW.same K S (v := -2) (by unfold f_X5_cash; rw [l1, n1]; rfl) (by unfold f_X6_cash; rw [l2, n2]; rfl)
  obtain ⟨ci, c1, -⟩ := cls_rd K
  obtain ⟨ri, r0, r1, r2, r3, r4, r5, q6, q7, q8, q9, q10, q11, q12, q13, q14, a6, a7, -⟩ := bk_rd K.bok
  obtain ⟨h1, e1, B1, f1⟩ := bk_w7 K.bok hk v
  have G1 := G.fr f1 (by decide)
  have M1 := K.mbk.fr f1 (by decide)
  obtain ⟨h2, e2, M2, f2⟩ := ga_wl M1 (n_6a k) (by omega) (by decide) v
  refine ⟨nI (N (6 + k)), h1, h2, ?_, by rw [f1.2 0 (by decide)]; exact K.c0, go_is G1, ?_, gu N (6 + k) v, ns, sg, np, P, im, IM, ?_, ?_⟩
  · show f_X5_cash h 1 _ _ = _
    unfold f_X5_cash
    rw [l1, n1, c1]
    simp only [Option.bind_some]
    rw [q7, if_neg i1_ne0, if_neg i1_ne0]
    simp only [Option.bind_some]
    rw [a7 k hk, e1]
    rfl
  · show f_X6_cash h1 31 _ _ = _
    unfold f_X6_cash
    rw [l2, n2, (mf_rd G1).2.1]
    simp only [Option.bind_some]
    rw [if_neg i1_ne0, if_neg i1_ne0, ga_rl M1 (n_6a k) (by omega) (by decide), e2]
    rfl
  · have F := (f1.mono (l' := 31 :: 32 :: 34 :: bkl 2) (by decide)).trans (f2.mono (by decide))
    exact K.put F (B1.fr f2 (by decide)) M2 ((K.msg.fr f1 (by decide)).fr f2 (by decide)) (inv_cash K.iv hk (by omega)) K.sgl
  · exact (S.fr f1 (by decide)).fr f2 (by decide)
theorem k_funds (K : Core h c0 N ns sg np P im IM) (S : Scr h ns np) (y : Int32) : WW h c0 (fun h => f_X5_funds h 1 y) (fun h => f_X6_funds h 31 y) := by
  obtain ⟨-, -, -, -, -, ⟨a, b, c, d, e, u, G⟩, -⟩ := id S
  rcases ar_in 0 9999 0 9999 rfl rfl (by decide) (by decide) y with ⟨n1, n2⟩ | ⟨v, -, hv, rfl, n1, n2⟩
  · exact WW.same K S (v := -2) (by unfold f_X5_funds; rw [n1]; rfl) (by unfold f_X6_funds; rw [n2]; rfl)
  obtain ⟨ci, c1, -⟩ := cls_rd K
  obtain ⟨ri, r0, r1, r2, -⟩ := bk_rd K.bok
  obtain ⟨h1, e1, B1, f1⟩ := bk_w1 K.bok v
  have G1 := G.fr f1 (by decide)
  have M1 := K.mbk.fr f1 (by decide)
  obtain ⟨h2, e2, M2, f2⟩ := ga_wl M1 (I := 10) (i := 10) rfl (by omega) (by decide) v
  refine ⟨nI (N 10), h1, h2, ?_, by rw [f1.2 0 (by decide)]; exact K.c0, go_is G1, ?_, gu N 10 v, ns, sg, np, P, im, IM, ?_, ?_⟩
  · show f_X5_funds h 1 _ = _
    unfold f_X5_funds
    rw [n1, c1]
    simp only [Option.bind_some]
    rw [if_neg i1_ne0, r1, e1]
    rfl
  · show f_X6_funds h1 31 _ = _
    unfold f_X6_funds
    rw [n2, (mf_rd G1).2.1]
    simp only [Option.bind_some]
    rw [if_neg i1_ne0, ga_rl M1 (I := 10) (i := 10) rfl (by omega) (by decide), e2]
    rfl
  · have F := (f1.mono (l' := 31 :: 32 :: 34 :: bkl 2) (by decide)).trans (f2.mono (by decide))
    exact K.put F (B1.fr f2 (by decide)) M2 ((K.msg.fr f1 (by decide)).fr f2 (by decide)) (inv_funds K.iv (by omega)) K.sgl
  · exact (S.fr f1 (by decide)).fr f2 (by decide)
/-- the pads are put on both sides -/
theorem Core.sign (K : Core h c0 N ns sg np P im IM) {np' : Nat} {P' : Nat → Nat} {h' : gi_H} (f : gfr [23, 24, 31, 35] h h') (D : go h' 23 3 (pf np')) (A : ga h' 24 60 P') (M : ga h' 35 60 P') (hP : ∀ i, i < 60 → P' i < 127) (hn : np' ≤ 60) : Core h' c0 N ns sg np' P' im IM := by
  refine ⟨by rw [f.1]; exact K.len, by rw [f.2 0 (by decide)]; exact K.c0, K.cls.fr f (by decide), K.bok.fr f (by decide), K.iv, K.sgl, D, A, hP, hn, K.off.fr f (by decide), K.wor.fr f (by decide), ?_, K.mbk.fr f (by decide), K.msg.fr f (by decide), M, K.mim.fr f (by decide), ?_, ?_, K.dis⟩
  · rw [f.2 30 (by decide)]; exact K.img
  · rw [f.2 39 (by decide)]; exact K.mkp
  · intro i hi k N' ns' sg' e
    obtain ⟨a1, a2, a3, a4⟩ := K.ims i hi k N' ns' sg' e
    refine ⟨a1, by rw [f.1]; exact a2, a3.fr f ?_, a4⟩
    intro j hj z
    simp only [bkl, List.mem_cons, List.not_mem_nil, or_false] at hj z
    omega
theorem pf_w (D : go h 23 3 (pf np)) (v : Nat) : ∃ h', gi_fp h 23 3 0 (.int (nI v)) = some h' ∧ go h' 23 3 (pf v) ∧ gfr [23] h h' := go_fp D _ (by simp [pf])
theorem k_say (K : Core h c0 N ns sg np P im IM) (S : Scr h ns np) (y : Int32) : WW h c0 (fun h => f_X5_say h 1 y) (fun h => f_X6_say h 31 y) := by
  obtain ⟨-, -, -, -, -, ⟨a, b, c, d, e, u, G⟩, -⟩ := id S
  rcases ar_in 33 126 33 126 rfl rfl (by decide) (by decide) y with ⟨n1, n2⟩ | ⟨v, hv0, hv, rfl, n1, n2⟩
  · exact WW.same K S (v := -2) (by unfold f_X5_say; rw [n1]; rfl) (by unfold f_X6_say; rw [n2]; rfl)
  obtain ⟨ci, c1, c2, c3, -⟩ := cls_rd K
  have hnp := K.npl
  have d0 := go_fI K.pad (k := 0) (x := nI np) rfl
  have d1 := go_fR K.pad (k := 1) (x := 24) rfl
  obtain ⟨g, g0, g1, g2, g3, g4, g5, -⟩ := mf_rd G
  by_cases t : np = 60
  · subst t
    refine WW.same K S (v := -4) ?_ ?_
    · show f_X5_say h 1 _ = _
      unfold f_X5_say f_X3_write
      rw [n1, c3]
      simp only [Option.bind_some]
      rw [if_neg i1_ne0, if_pos (go_is K.pad), d0]
      simp only [Option.bind_some]
      rw [w_out (l := 0) (u := 59) (Or.inr (by show nI 59 < nI 60; rw [nI_ltI (by decide) (by decide)]; omega))]
      rfl
    · show f_X6_say h 31 _ = _
      unfold f_X6_say
      rw [n2, g4]
      simp only [Option.bind_some]
      rw [if_neg i1_ne0, if_pos (show nI 60 = 60 from rfl)]
  · obtain ⟨h1, e1, A1, f1⟩ := ga_wr K.pds (i := np) (by omega) (by decide) v
    have D1 := K.pad.fr f1 (by decide)
    obtain ⟨h2, e2, D2, f2⟩ := pf_w D1 (np + 1)
    have F2 := (f1.mono (l' := [23, 24, 31, 35]) (by decide)).trans (f2.mono (by decide))
    have G2 := (G.fr f1 (by decide)).fr f2 (by decide)
    have M2 := (K.mpd.fr f1 (by decide)).fr f2 (by decide)
    obtain ⟨g, g0, g1, g2, g3, g4, g5, -⟩ := mf_rd G2
    obtain ⟨h3, e3, M3, f3⟩ := ga_wr M2 (i := np) (by omega) (by decide) v
    obtain ⟨h4, e4, G4, f4⟩ := mf_w4 (G2.fr f3 (by decide)) (np + 1)
    have F4 := (F2.trans (f3.mono (by decide))).trans (f4.mono (by decide))
    refine ⟨nI (np + 1), h2, h4, ?_, by rw [F2.2 0 (by decide)]; exact K.c0, g, ?_, N, ns, sg, np + 1, gu P np v, im, IM, ?_, ?_⟩
    · show f_X5_say h 1 _ = _
      unfold f_X5_say f_X3_write
      rw [n1, c3]
      simp only [Option.bind_some]
      rw [if_neg i1_ne0, if_pos (go_is K.pad), d0]
      simp only [Option.bind_some]
      rw [in_nI 0 59 rfl rfl (by decide) (Nat.zero_le np) (show np ≤ 59 by omega), d1]
      simp only [Option.bind_some]
      rw [if_neg i1_ne0, e1]
      simp only [Option.bind_some]
      rw [go_fI D1 (k := 0) (x := nI np) rfl]
      simp only [Option.bind_some]
      rw [nI_1, e2]
      simp only [Option.bind_some]
      rw [if_neg i1_ne0, go_fR ((K.cls.fr f1 (by decide)).fr f2 (by decide)) (k := 2) (x := 23) rfl]
      simp only [Option.bind_some]
      rw [go_fI D2 (k := 0) (x := nI (np + 1)) rfl]
      rfl
    · show f_X6_say h2 31 _ = _
      unfold f_X6_say
      rw [n2, g4, g5]
      simp only [Option.bind_some]
      rw [if_neg i1_ne0, n_ifc 60 60 rfl (by omega) (by decide), if_neg t, e3]
      simp only [Option.bind_some]
      rw [(mf_rd (G2.fr f3 (by decide))).2.2.2.2.2.1]
      simp only [Option.bind_some]
      rw [nI_1, e4]
      simp only [Option.bind_some]
      rw [(mf_rd G4).2.2.2.2.2.1]
      rfl
    · refine K.sign F4 ((D2.fr f3 (by decide)).fr f4 (by decide)) (((A1.fr f2 (by decide)).fr f3 (by decide)).fr f4 (by decide)) (M3.fr f4 (by decide)) ?_ (by omega)
      intro i hi
      have := K.hP i hi
      unfold gu
      split <;> omega
    · exact S.fr31 F4 (by decide) ⟨_, _, _, _, _, _, G4⟩
theorem k_wipe (K : Core h c0 N ns sg np P im IM) (S : Scr h ns np) : WW h c0 (fun h => f_X5_wipe h 1) (fun h => f_X6_wipe h 31) := by
  obtain ⟨-, -, -, -, -, ⟨a, b, c, d, e, u, G⟩, -⟩ := id S
  obtain ⟨ci, c1, c2, c3, -⟩ := cls_rd K
  have d0 := go_fI K.pad (k := 0) (x := nI np) rfl
  obtain ⟨h2, e2, D2, f2⟩ := pf_w K.pad 0
  have G2 := G.fr f2 (by decide)
  obtain ⟨h4, e4, G4, f4⟩ := mf_w4 G2 0
  have F4 := (f2.mono (l' := [23, 24, 31, 35]) (by decide)).trans (f4.mono (by decide))
  refine ⟨nI np, h2, h4, ?_, by rw [f2.2 0 (by decide)]; exact K.c0, go_is G2, ?_, N, ns, sg, 0, P, im, IM, ?_, ?_⟩
  · show f_X5_wipe h 1 = _
    unfold f_X5_wipe
    rw [c3]
    simp only [Option.bind_some]
    rw [d0, show (0 : Int32) = nI 0 from rfl, e2]
    rfl
  · show f_X6_wipe h2 31 = _
    unfold f_X6_wipe
    rw [(mf_rd G2).2.2.2.2.2.1, show (0 : Int32) = nI 0 from rfl, e4]
    rfl
  · exact K.sign F4 (D2.fr f4 (by decide)) ((K.pds.fr f2 (by decide)).fr f4 (by decide)) ((K.mpd.fr f2 (by decide)).fr f4 (by decide)) K.hP (by omega)
  · exact S.fr31 F4 (by decide) ⟨_, _, _, _, _, _, G4⟩
theorem k_fault (K : Core h c0 N ns sg np P im IM) (S : Scr h ns np) : RR (f_X5_fault h 1) (f_X6_fault h 31) := by
  obtain ⟨-, -, -, -, -, ⟨a, b, c, d, e, u, G⟩, -⟩ := id S
  obtain ⟨ci, c1, c2, c3, -⟩ := cls_rd K
  refine ⟨flt P np 0 0, ?_, ?_⟩
  · unfold f_X5_fault
    rw [c3]
    simp only [Option.bind_some]
    rw [if_pos (go_is K.pad), d_fault K.pad K.pds K.hP K.npl]
    rfl
  · unfold f_X6_fault
    rw [if_pos (go_is G), m_fault G K.mpd K.hP K.npl]
    rfl
end PLAIN
