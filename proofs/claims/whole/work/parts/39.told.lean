/-! WHAT IS TOLD, images brought back -/
section TOLD
variable {h : gi_H} {c0 : va_E} {N : Nat → Nat} {ns : Nat} {sg : Nat → Nat} {np : Nat} {P : Nat → Nat} {im : Nat → gi_Im} {IM : Nat → Nat}
theorem n_back {x : Int32} {d b : Nat} (e : x - nI d = nI b) : x = nI (d + b) := by
  rw [← nI_add, ← e]
  rw [Int32.add_comm, Int32.sub_add_cancel]
theorem n_20k (k : Nat) : nI (20 + k) - 20 = nI k := by
  show nI (20 + k) - nI 20 = nI k
  rw [pk_sub (by omega), show 20 + k - 20 = k by omega]
theorem n_10k (k : Nat) : nI (10 + k) - 10 = nI k := by
  show nI (10 + k) - nI 10 = nI k
  rw [pk_sub (by omega), show 10 + k - 10 = k by omega]
theorem n_4k (k : Nat) : nI (10 + k) - 4 = nI (6 + k) := by
  show nI (10 + k) - nI 4 = nI (6 + k)
  rw [pk_sub (by omega), show 10 + k - 4 = 6 + k by omega]
theorem n_b20 {x : Int32} {b : Nat} (e : x - 20 = nI b) : x = nI (20 + b) := n_back (d := 20) e
theorem n_b10 {x : Int32} {b : Nat} (e : x - 10 = nI b) : x = nI (10 + b) := n_back (d := 10) e
theorem k_told (K : Core h c0 N ns sg np P im IM) (S : Scr h ns np) (x : Int32) : RR (f_X5_told h 1 x) (f_X6_told h 31 x) := by
  obtain ⟨-, -, -, -, -, ⟨a, b, c, d, e, u, G⟩, -⟩ := id S
  obtain ⟨ci, c1, c2, c3, -⟩ := cls_rd K
  obtain ⟨ri, r0, r1, r2, r3, r4, r5, q6, q7, q8, q9, q10, q11, q12, q13, q14, a6, a7, -⟩ := bk_rd K.bok
  obtain ⟨g, g0, g1, g2, g3, g4, -⟩ := mf_rd G
  have d0 := go_fI K.pad (k := 0) (x := nI np) rfl
  unfold RR f_X5_told f_X6_told
  rw [c1, c3, g0, g2, g4]
  simp only [Option.bind_some]
  rw [q6, q7, r0, r1, r2, r3, r4, r5, d0]
  simp only [Option.bind_some]
  rw [ga_rl K.mbk (I := 10) (i := 10) rfl (by omega) (by decide), ga_rl K.mbk (I := 11) (i := 11) rfl (by omega) (by decide), ga_rl K.mbk (I := 12) (i := 12) rfl (by omega) (by decide), ga_rl K.mbk (I := 13) (i := 13) rfl (by omega) (by decide), ga_rl K.mbk (I := 14) (i := 14) rfl (by omega) (by decide)]
  simp only [Option.bind_some]
  rcases ar_buyer (x - 10) with ⟨l1, l2⟩ | ⟨b, hb, ex, l1, l2⟩
  · rw [l1, l2, Option.bind_some, if_pos rfl, Option.bind_some, if_pos rfl]
    rcases ar_life (x - 20) with ⟨m1, m2⟩ | ⟨k, hk, ex, m1, m2⟩
    · rw [m1, m2, Option.bind_some, if_pos rfl, Option.bind_some, if_pos rfl]
      by_cases t0 : x = 0
      · have l20 : x < 20 := by rw [t0]; decide
        have l10 : x < 10 := by rw [t0]; decide
        rw [if_pos l20, if_pos l10, if_pos t0]
        exact ⟨_, rfl, rfl⟩
      by_cases t1 : x = 1
      · have l20 : x < 20 := by rw [t1]; decide
        have l10 : x < 10 := by rw [t1]; decide
        rw [if_pos l20, if_pos l10, if_neg t0, if_pos t1]
        exact ⟨_, rfl, rfl⟩
      by_cases t2 : x = 2
      · have l20 : x < 20 := by rw [t2]; decide
        have l10 : x < 10 := by rw [t2]; decide
        rw [if_pos l20, if_pos l10, if_neg t0, if_neg t1, if_pos t2]
        exact ⟨_, rfl, rfl⟩
      by_cases t3 : x = 3
      · have l20 : x < 20 := by rw [t3]; decide
        have l10 : x < 10 := by rw [t3]; decide
        rw [if_pos l20, if_pos l10, if_neg t0, if_neg t1, if_neg t2, if_pos t3]
        exact ⟨_, rfl, rfl⟩
      by_cases t4 : x = 4
      · have l20 : x < 20 := by rw [t4]; decide
        have l10 : x < 10 := by rw [t4]; decide
        rw [if_pos l20, if_pos l10, if_neg t0, if_neg t1, if_neg t2, if_neg t3, if_pos t4]
        exact ⟨_, rfl, rfl⟩
      by_cases t5 : x = 5
      · have l20 : x < 20 := by rw [t5]; decide
        have l10 : x < 10 := by rw [t5]; decide
        rw [if_pos l20, if_pos l10, if_neg t0, if_neg t1, if_neg t2, if_neg t3, if_neg t4, if_pos t5]
        exact ⟨_, rfl, rfl⟩
      by_cases t6 : x = 6
      · have l20 : x < 20 := by rw [t6]; decide
        have l10 : x < 10 := by rw [t6]; decide
        rw [if_pos l20, if_pos l10, if_neg t0, if_neg t1, if_neg t2, if_neg t3, if_neg t4, if_neg t5, if_pos t6]
        exact ⟨_, rfl, rfl⟩
      rw [if_neg t0, if_neg t1, if_neg t2, if_neg t3, if_neg t4, if_neg t5, if_neg t6]
      refine ⟨-2, rfl, ?_⟩
      split
      · split <;> rfl
      · rfl
    · have ex := n_b20 ex
      subst ex
      rw [m1, m2, Option.bind_some, if_neg i1_ne0, Option.bind_some, if_neg i1_ne0, n_20k k, a6 k hk, ga_rd K.mbk (by omega) (by decide), n_iflt 20 20 rfl (by omega) (by decide), if_neg (show ¬ 20 + k < 20 by omega)]
      exact ⟨_, rfl, rfl⟩
  · have ex := n_b10 ex
    subst ex
    rw [l1, l2, Option.bind_some, if_neg i1_ne0, Option.bind_some, if_neg i1_ne0, n_10k b, n_4k b, a7 b hb, ga_rd K.mbk (i := 6 + b) (by omega) (by decide), n_iflt 20 20 rfl (by omega) (by decide), if_pos (show 10 + b < 20 by omega), n_iflt 10 10 rfl (by omega) (by decide), if_neg (show ¬ 10 + b < 10 by omega)]
    exact ⟨_, rfl, rfl⟩
/-! images -/
theorem i_aq (K : Core h c0 N ns sg np P im IM) {i : Nat} (hi : i < 2) : gi_aq h 30 (nI i) = some ((im i).map (fun x => x.1)) := by
  obtain ⟨f, e, hf⟩ := K.img
  unfold gi_aq
  rw [e]
  simp only
  rw [if_pos ⟨trivial, nI_in hi (by decide)⟩, nI_clamp (by omega), hf i hi]
theorem i_kp (K : Core h c0 N ns sg np P im IM) {i : Nat} (hi : i < 2) : gi_ai h 39 2 (nI i) = some (if (im i).isSome then 1 else 0) := by
  obtain ⟨f, e, hf⟩ := K.mkp
  unfold gi_ai
  rw [e]
  simp only
  rw [if_pos ⟨trivial, nI_in hi (by decide)⟩, nI_clamp (by omega), hf i hi]
theorem n_100 (i j : Nat) : (100 : Int32) * nI i + nI j = nI (100 * i + j) := by
  rw [show (100 : Int32) * nI i = nI (100 * i) from pk_mul 100 i, nI_add]
theorem n_163 (i j : Nat) : (100 : Int32) * nI i + 63 + nI j = nI (100 * i + 63 + j) := by
  rw [show (100 : Int32) * nI i + 63 = nI (100 * i + 63) from n_100 i 63, nI_add]
theorem m_rest2 {c d e : Int32} {u : Int64} {a : Int32} {b : Bool} {i : Nat} (hi : i < 2) {ns' : Nat} {sg' : Nat → Nat} (h1 : ∀ j, j < 24 → IM (100 * i + 63 + j) = sg' j) (h2 : IM (100 * i + 90) = ns') : ∀ (n j : Nat) (h : gi_H) (g : Nat → Nat), j ≤ 24 → 24 - j < n → go h 31 6 (mf ns np a b c d e u) → ga h 38 200 IM → ga h 34 24 g → (∀ q, q < j → g q = sg' q) → ∃ h', f_X6_restore_57 n h 31 (nI i) (nI j) = some (1, h') ∧ ga h' 34 24 sg' ∧ go h' 31 6 (mf ns' np a b c d e u) ∧ gfr [31, 34] h h' := by
  intro n
  induction n with
  | zero => intro j h g _ hn; omega
  | succ n ih =>
    intro j h g hj hn G A Q ee
    obtain ⟨r, r0, r1, r2, r3, r4, r5, r6, r7, r8, r9, r10, r11, r12, r13, r14, r15⟩ := mf_rd G
    unfold f_X6_restore_57
    rw [n_ifge 24 24 rfl (by omega) (by decide)]
    rcases Nat.lt_or_ge j 24 with hlt | hge
    · rw [if_neg (by omega), r3, r14]
      simp only [Option.bind_some]
      rw [n_163, ga_rd A (by omega) (by decide), h1 j hlt]
      simp only [Option.bind_some]
      obtain ⟨h3, e3, Q3, f3⟩ := ga_wr Q hlt (by decide) (sg' j)
      rw [e3]
      simp only [Option.bind_some]
      rw [nI_1]
      obtain ⟨h4, e4, Q4, G4, f4⟩ := ih (j + 1) h3 _ (by omega) (by omega) (G.fr f3 (by decide)) (A.fr f3 (by decide)) Q3 (fun q hq => by
        by_cases z : q = j
        · rw [z, gu_self]
        · rw [gu_ne _ _ z]; exact ee q (by omega))
      exact ⟨h4, e4, Q4, G4, (f3.mono (by decide)).trans f4⟩
    · rw [if_pos (by omega)]
      unfold f_X6_restore_89
      rw [r14]
      simp only [Option.bind_some]
      rw [show (100 : Int32) * nI i + 90 = nI (100 * i + 90) from n_100 i 90, ga_rd A (by omega) (by decide), h2]
      simp only [Option.bind_some]
      obtain ⟨h3, e3, G3, f3⟩ := mf_w2 G ns'
      rw [e3]
      exact ⟨h3, rfl, (Q.fr f3 (by decide)).cong (fun q hq => ee q (by omega)), G3, f3.mono (by decide)⟩
theorem m_rest1 {c d e : Int32} {u : Int64} {a : Int32} {b : Bool} {i : Nat} (hi : i < 2) {ns' : Nat} {sg' N' : Nat → Nat} (h0 : ∀ j, j < 63 → IM (100 * i + j) = N' j) (h1 : ∀ j, j < 24 → IM (100 * i + 63 + j) = sg' j) (h2 : IM (100 * i + 90) = ns') : ∀ (n j : Nat) (h : gi_H) (g s : Nat → Nat), j ≤ 63 → 63 - j < n → go h 31 6 (mf ns np a b c d e u) → ga h 38 200 IM → ga h 34 24 s → ga h 32 63 g → (∀ q, q < j → g q = N' q) → ∃ h', f_X6_restore_26 n h 31 (nI i) (nI j) = some (1, h') ∧ ga h' 32 63 N' ∧ ga h' 34 24 sg' ∧ go h' 31 6 (mf ns' np a b c d e u) ∧ gfr [31, 32, 34] h h' := by
  intro n
  induction n with
  | zero => intro j h g s _ hn; omega
  | succ n ih =>
    intro j h g s hj hn G A Q B ee
    obtain ⟨r, r0, r1, r2, r3, r4, r5, r6, r7, r8, r9, r10, r11, r12, r13, r14, r15⟩ := mf_rd G
    unfold f_X6_restore_26
    rw [n_ifge 63 63 rfl (by omega) (by decide)]
    rcases Nat.lt_or_ge j 63 with hlt | hge
    · rw [if_neg (by omega), r0, r14]
      simp only [Option.bind_some]
      rw [n_100, ga_rd A (by omega) (by decide), h0 j hlt]
      simp only [Option.bind_some]
      obtain ⟨h3, e3, B3, f3⟩ := ga_wr B hlt (by decide) (N' j)
      rw [e3]
      simp only [Option.bind_some]
      rw [nI_1]
      obtain ⟨h4, e4, B4, Q4, G4, f4⟩ := ih (j + 1) h3 _ _ (by omega) (by omega) (G.fr f3 (by decide)) (A.fr f3 (by decide)) (Q.fr f3 (by decide)) B3 (fun q hq => by
        by_cases z : q = j
        · rw [z, gu_self]
        · rw [gu_ne _ _ z]; exact ee q (by omega))
      exact ⟨h4, e4, B4, Q4, G4, (f3.mono (by decide)).trans f4⟩
    · rw [if_pos (by omega)]
      obtain ⟨h3, e3, Q3, G3, f3⟩ := m_rest2 (IM := IM) (ns := ns) (np := np) hi h1 h2 gi_F 0 h s (by omega) (by decide) G A Q (fun q hq => by omega)
      exact ⟨h3, e3, (B.fr f3 (by decide)).cong (fun q hq => ee q (by omega)), Q3, G3, f3.mono (by decide)⟩
theorem k_restore (K : Core h c0 N ns sg np P im IM) (S : Scr h ns np) (x : Int32) : WW h c0 (fun h => f_X5_restore h 1 x) (fun h => f_X6_restore h 31 x) := by
  obtain ⟨-, -, -, -, -, ⟨a, b, c, d, e, u, G⟩, -⟩ := id S
  rcases ar_in 0 1 0 1 rfl rfl (by decide) (by decide) x with ⟨n1, n2⟩ | ⟨i, -, hi, rfl, n1, n2⟩
  · exact WW.same K S (v := -2) (by unfold f_X5_restore; rw [n1]; rfl) (by unfold f_X6_restore; rw [n2]; rfl)
  obtain ⟨ci, c1, c2, c3, c4, c5, c6⟩ := cls_rd K
  have hq := i_aq K (i := i) (by omega)
  have hk := i_kp K (i := i) (by omega)
  obtain ⟨r, r0, r1, r2, r3, r4, r5, r6, r7, r8, r9, r10, r11, r12, r13, r14, r15⟩ := mf_rd G
  cases him : im i with
  | none =>
    rw [him] at hq hk
    refine WW.same K S (v := -3) ?_ ?_
    · show f_X5_restore h 1 _ = _
      unfold f_X5_restore
      rw [n1, c6]
      simp only [Option.bind_some]
      rw [if_neg i1_ne0, hq]
      rfl
    · show f_X6_restore h 31 _ = _
      unfold f_X6_restore
      rw [n2, r15]
      simp only [Option.bind_some]
      rw [if_neg i1_ne0, hk]
      rfl
  | some v =>
    obtain ⟨k, N', ns', sg'⟩ := v
    rw [him] at hq hk
    obtain ⟨w1, w2, w3, w4, w5, w6, w7, w8⟩ := K.ims i (by omega) k N' ns' sg' him
    have dj : ∀ j, j ∈ bkl k → j ∉ bkl 2 := by
      intro j hj z
      simp only [bkl, List.mem_cons, List.not_mem_nil, or_false] at hj z
      omega
    obtain ⟨h1, e1, B1, f1⟩ := d_copy K.bok w3 dj
    have G1 := G.fr f1 (by decide)
    obtain ⟨h2, e2, B2, Q2, G2, f2⟩ := m_rest1 (IM := IM) (ns := ns) (np := np) (i := i) (by omega) w6 w7 w8 gi_F 0 h1 N sg (by omega) (by decide) G1 (K.mim.fr f1 (by decide)) (K.msg.fr f1 (by decide)) (K.mbk.fr f1 (by decide)) (fun q hq => by omega)
    have F2 : gfr (31 :: 32 :: 34 :: bkl 2) h h2 := (f1.mono (by decide)).trans (f2.mono (by decide))
    refine ⟨1, h1, h2, ?_, by rw [f1.2 0 (by decide)]; exact K.c0, go_is G1, ?_, N', ns', sg', np, P, im, IM, K.put F2 (B1.fr f2 (by decide)) B2 Q2 w4 w5, S.fr31 F2 (by decide) ⟨_, _, _, _, _, _, G2⟩⟩
    · show f_X5_restore h 1 _ = _
      unfold f_X5_restore
      rw [n1, c6, c1]
      simp only [Option.bind_some]
      rw [if_neg i1_ne0, hq]
      simp only [Option.bind_some, Option.map_some]
      rw [if_pos (bk_rd K.bok).1, e1]
      rfl
    · show f_X6_restore h1 31 _ = _
      unfold f_X6_restore
      rw [n2, (mf_rd G1).2.2.2.2.2.2.2.2.2.2.2.2.2.2.2.2]
      simp only [Option.bind_some]
      have hk1 : gi_ai h1 39 2 (nI i) = gi_ai h 39 2 (nI i) := by unfold gi_ai; rw [f1.2 39 (by decide)]
      rw [if_neg i1_ne0, hk1, hk]
      simp only [Option.bind_some, Option.isSome_some, if_true]
      rw [if_neg i1_ne0]
      exact e2
end TOLD
