/-! THE JUDGED MONTHS: judge, done, behind -/
theorem flt_val (P : Nat → Nat) : ∀ (m s i : Nat), i + m < 1000 → flt P m s i = -6 ∨ ∃ j, j < 1000 ∧ flt P m s i = nI j := by
  intro m
  induction m with
  | zero =>
    intro s i hi
    unfold flt
    split
    · exact Or.inl rfl
    · exact Or.inr ⟨i, by omega, rfl⟩
  | succ m ih =>
    intro s i hi
    unfold flt
    split
    · exact Or.inr ⟨i, by omega, rfl⟩
    · exact ih _ _ (by omega)
section JUDGED
variable {h : gi_H} {c0 : va_E} {N : Nat → Nat} {ns : Nat} {sg : Nat → Nat} {np : Nat} {P : Nat → Nat} {im : Nat → gi_Im} {IM : Nat → Nat}
def alll : List Nat := scrl ++ [23, 24, 32, 34, 35] ++ bkl 2
theorem Core.new (K : Core h c0 N ns sg np P im IM) {N' : Nat → Nat} {ns' : Nat} {sg' : Nat → Nat} {np' : Nat} {P' : Nat → Nat} {h' : gi_H} (f : gfr alll h h') (B : bk h' 2 N' ns' sg') (M : ga h' 32 63 N') (Q : ga h' 34 24 sg') (I : inv N') (sgl : sgok ns' sg') (D : go h' 23 3 (pf np')) (A : ga h' 24 60 P') (MP : ga h' 35 60 P') (hP : ∀ i, i < 60 → P' i < 127) (hn : np' ≤ 60) : Core h' c0 N' ns' sg' np' P' im IM := by
  refine ⟨by rw [f.1]; exact K.len, by rw [f.2 0 (by decide)]; exact K.c0, K.cls.fr f (by decide), B, I, sgl, D, A, hP, hn, K.off.fr f (by decide), K.wor.fr f (by decide), ?_, M, Q, MP, K.mim.fr f (by decide), ?_, ?_, K.dis⟩
  · rw [f.2 30 (by decide)]; exact K.img
  · rw [f.2 39 (by decide)]; exact K.mkp
  · intro i hi k N' ns' sg' e
    obtain ⟨a1, a2, a3, a4⟩ := K.ims i hi k N' ns' sg' e
    refine ⟨a1, by rw [f.1]; exact a2, a3.fr f ?_, a4⟩
    intro j hj z
    simp only [alll, scrl, bkl, List.mem_cons, List.mem_append, List.not_mem_nil, or_false] at hj z
    omega
theorem c_read (K : Core h c0 N ns sg np P im IM) (S : Scr h ns np) (hf : flt P np 0 0 = -6) : ∃ h', f_X1_readPad h 12 2 23 = some (bI (mo P 61 0 np N 0 0 (-6)).1, h') ∧ gfr crl h h' ∧ bk h' 13 (mo P 61 0 np N 0 0 (-6)).2.1 ns sg ∧ inv (mo P 61 0 np N 0 0 (-6)).2.1 ∧ (mo P 61 0 np N 0 0 (-6)).2.2.1 ≤ np ∧
      ((mo P 61 0 np N 0 0 (-6)).1 = true → go h' 12 1 (cf (nI (mo P 61 0 np N 0 0 (-6)).2.2.1) (-6) (-6) (nI (mo P 61 0 np N 0 0 (-6)).2.2.2.2.1) (mo P 61 0 np N 0 0 (-6)).2.2.2.2.2)) ∧
      ((mo P 61 0 np N 0 0 (-6)).1 = false → ∃ u v w, go h' 12 1 (cf u (nI (mo P 61 0 np N 0 0 (-6)).2.2.1) (nI (mo P 61 0 np N 0 0 (-6)).2.2.2.1) v w)) := by
  obtain ⟨⟨a, b, c, d, e, C⟩, ⟨x, y, z, T⟩, -⟩ := id S
  have hnp := K.npl
  have m1 : ∀ j ∈ bkl 13, j ∈ crl := by decide
  have m2 : ∀ j ∈ [12], j ∈ crl := by decide
  unfold f_X1_readPad
  rw [(cf_rd C).2.1]
  simp only [Option.bind_some]
  obtain ⟨h1, e1, T1, f1⟩ := d_copy T K.bok (by decide)
  rw [if_pos (bk_rd T).1, e1]
  simp only [Option.bind_some]
  have C1 := C.fr f1 (by decide)
  obtain ⟨h2, e2, C2, f2⟩ := cf_w1 C1 0
  rw [e2]
  simp only [Option.bind_some]
  obtain ⟨h3, e3, C3, f3⟩ := cf_w2 C2 (-6)
  rw [e3]
  simp only [Option.bind_some]
  obtain ⟨h4, e4, C4, f4⟩ := cf_w3 C3 (-6)
  rw [e4]
  simp only [Option.bind_some]
  obtain ⟨h5, e5, C5, f5⟩ := cf_w4 C4 0
  rw [e5]
  simp only [Option.bind_some]
  obtain ⟨h6, e6, C6, f6⟩ := cf_w5 C5 (-6)
  rw [e6]
  simp only [Option.bind_some]
  have F : gfr [12] h1 h6 := (((f2.trans f3).trans f4).trans f5).trans f6
  have F6 := (f1.mono m1).trans (F.mono m2)
  obtain ⟨h7, e7, f7, r⟩ := c_pad (ns := ns) (sg := sg) K.hP hnp 61 gi_F 0 N 0 0 (-6) h6 (by omega) (by unfold gi_F; omega) (by omega) (by omega) hf K.iv C6 (T1.fr F (by decide)) (K.pad.fr F6 (by decide)) (K.pds.fr F6 (by decide))
  exact ⟨h7, e7, F6.trans f7, r⟩
theorem m_read (KB : ga h 32 63 N) (KP : ga h 35 60 P) (hP : ∀ i, i < 60 → P i < 127) (hnp : np ≤ 60) (KI : inv N) {g : Nat → Nat} {a : Int32} {b : Bool} {c d e : Int32} {u : Int64} (G : go h 31 6 (mf ns np a b c d e u)) (A : ga h 33 63 g) (hf : flt P np 0 0 = -6) : ∃ h', f_X6_goMonths h 31 = some (if (mo P 61 0 np N 0 0 (-6)).1 = true then -6 else nI (mo P 61 0 np N 0 0 (-6)).2.2.1, h') ∧ gfr [31, 33] h h' ∧ ga h' 33 63 (mo P 61 0 np N 0 0 (-6)).2.1 ∧
      ((mo P 61 0 np N 0 0 (-6)).1 = true → ∃ sh rs, go h' 31 6 (mf ns np (nI (mo P 61 0 np N 0 0 (-6)).2.2.2.2.1) sh rs (nI (mo P 61 0 np N 0 0 (-6)).2.2.1) (mo P 61 0 np N 0 0 (-6)).2.2.2.2.2 u)) ∧
      ((mo P 61 0 np N 0 0 (-6)).1 = false → ∃ s v w x, go h' 31 6 (mf ns np s v (nI (mo P 61 0 np N 0 0 (-6)).2.2.2.1) w x u)) := by
  have ma : ∀ j ∈ [31], j ∈ [31, 33] := by decide
  have mb : ∀ j ∈ [33], j ∈ [31, 33] := by decide
  unfold f_X6_goMonths
  rw [if_pos (go_is G)]
  obtain ⟨h1, e1, A1, f1⟩ := m_asNow G KB A
  rw [e1]
  simp only [Option.bind_some]
  obtain ⟨h2, e2, G2, f2⟩ := mf_w9 (G.fr f1 (by decide)) 0
  rw [e2]
  simp only [Option.bind_some]
  obtain ⟨h3, e3, G3, f3⟩ := mf_w6 G2 0
  rw [e3]
  simp only [Option.bind_some]
  obtain ⟨h4, e4, G4, f4⟩ := mf_w10 G3 (-6)
  rw [e4]
  simp only [Option.bind_some]
  have F : gfr [31] h1 h4 := (f2.trans f3).trans f4
  have F4 := (f1.mono mb).trans (F.mono ma)
  obtain ⟨h5, e5, f5, r⟩ := m_pad (ns := ns) (up := u) hP hnp 61 gi_F 0 N 0 0 (-6) c b h4 (by omega) (by unfold gi_F; omega) (by omega) (by omega) (Or.inl rfl) hf KI G4 (A1.fr F (by decide)) (KP.fr F4 (by decide))
  exact ⟨h5, e5, F4.trans f5, r⟩
/-- the course and the months are read on both sides: the scratch stands again -/
theorem Scr.read (S : Scr h ns np) {h' : gi_H} {ns' np' : Nat} {l : List Nat} (f : gfr l h h') (hl : ∀ j ∈ l, j ∉ [26, 27, 29, 36, 37]) (s1 : ∃ a b c d e, go h' 12 1 (cf a b c d e)) (s2 : ∃ N ns sg, bk h' 13 N ns sg) (s6 : ∃ a b c d e u, go h' 31 6 (mf ns' np' a b c d e u)) (s7 : ∃ g, ga h' 33 63 g) : Scr h' ns' np' := by
  obtain ⟨-, -, ⟨g1, s3⟩, ⟨g2, s4⟩, ⟨g3, s5⟩, -, -, ⟨g5, s8⟩, ⟨g6, s9⟩⟩ := S
  have q : ∀ i, i ∈ [26, 27, 29, 36, 37] → i ∉ l := fun i hi z => hl i z hi
  exact ⟨s1, s2, ⟨g1, s3.fr f (q _ (by decide))⟩, ⟨g2, by rw [f.2 _ (q _ (by decide))]; exact s4⟩, ⟨g3, s5.fr f (q _ (by decide))⟩, s6, s7, ⟨g5, s8.fr f (q _ (by decide))⟩, ⟨g6, s9.fr f (q _ (by decide))⟩⟩
theorem Scr.is12 (S : Scr h ns np) : gi_is h 12 1 = true := by
  obtain ⟨⟨a, b, c, d, e, C⟩, -⟩ := S
  exact go_is C
theorem k_judge (K : Core h c0 N ns sg np P im IM) (S : Scr h ns np) (x : Int32) : WW h c0 (fun h => f_X5_judge h 1 x) (fun h => f_X6_judge h 31 x) := by
  obtain ⟨-, -, -, -, -, ⟨a, b, c, d, e, u, G⟩, ⟨gn, A⟩, -⟩ := id S
  rcases ar_in 0 1 0 1 rfl rfl (by decide) (by decide) x with ⟨n1, n2⟩ | ⟨v, -, hv, rfl, n1, n2⟩
  · exact WW.same K S (v := -2) (by unfold f_X5_judge; rw [n1]; rfl) (by unfold f_X6_judge; rw [n2]; rfl)
  obtain ⟨ci, c1, c2, c3, -⟩ := cls_rd K
  have hd := d_fault K.pad K.pds K.hP K.npl
  have hm := m_fault G K.mpd K.hP K.npl
  have hnp := K.npl
  rcases flt_val P np 0 0 (by omega) with hf | ⟨j, hj, hf⟩
  · obtain ⟨h1, e1, f1, B1, I1, k1, k2, k3⟩ := c_read K S hf
    obtain ⟨-, -, -, -, -, -, -, g5, g6⟩ := id S
    have K1 := K.fr f1 (by decide)
    have G1 := G.fr f1 (by decide)
    obtain ⟨h2, e2, f2, A2, m2, m3⟩ := m_read K1.mbk K1.mpd K.hP K.npl K.iv G1 (A.fr f1 (by decide)) hf
    have hm1 := m_fault G1 K1.mpd K.hP K.npl
    have F2 : gfr (crl ++ [31, 33]) h h2 := (f1.mono (by decide)).trans (f2.mono (by decide))
    have K2 := K1.fr f2 (by decide)
    have lhs : f_X5_judge h 1 (nI v) = (if v = 0 then (gi_fI h1 12 1 2).bind fun y14 => some (y14, h1) else (gi_fI h1 12 1 3).bind fun y16 => some (y16, h1)) := by
      unfold f_X5_judge
      rw [n1, c3, c2, c1]
      simp only [Option.bind_some]
      rw [if_neg i1_ne0, if_pos (go_is K.pad), hd, hf]
      simp only [Option.bind_some]
      rw [if_pos trivial, if_pos S.is12, e1]
      simp only [Option.bind_some]
      rw [go_fR K1.cls (k := 1) (x := 12) rfl, n_if0 (by omega)]
      rfl
    have rhs : f_X6_judge h1 31 (nI v) = (if (if (mo P 61 0 np N 0 0 (-6)).1 = true then -6 else nI (mo P 61 0 np N 0 0 (-6)).2.2.1 : Int32) < 0 then some ((if (mo P 61 0 np N 0 0 (-6)).1 = true then -6 else nI (mo P 61 0 np N 0 0 (-6)).2.2.1 : Int32), h2) else if v = 0 then some ((if (mo P 61 0 np N 0 0 (-6)).1 = true then -6 else nI (mo P 61 0 np N 0 0 (-6)).2.2.1 : Int32), h2) else (gi_fI h2 31 6 8).bind fun y10 => some (y10, h2)) := by
      unfold f_X6_judge
      rw [n2]
      simp only [Option.bind_some]
      rw [if_neg i1_ne0, if_pos (go_is G1), hm1, hf]
      simp only [Option.bind_some]
      rw [if_pos (show (-6 : Int32) < 0 by decide), if_pos (go_is G1), e2]
      simp only [Option.bind_some]
      rw [n_if0 (by omega)]
    have hc0 : h1[0]? = some c0 := K1.c0
    generalize mo P 61 0 np N 0 0 (-6) = R at *
    obtain ⟨r0, r1, r2, r3, r4, r5⟩ := R
    simp only at *
    have hfin : (∃ a b c d e, go h1 12 1 (cf a b c d e)) → (∃ a b c d e u, go h2 31 6 (mf ns np a b c d e u)) → SS h2 c0 := by
      intro ⟨a, b, c, d, e, q1⟩ q2
      exact ⟨N, ns, sg, np, P, im, IM, K2, S.read F2 (by decide) ⟨a, b, c, d, e, q1.fr f2 (by decide)⟩ ⟨_, _, _, B1.fr f2 (by decide)⟩ q2 ⟨_, A2⟩⟩
    cases r0 with
    | true =>
      have C1 := k2 rfl
      obtain ⟨sh, rs, G2⟩ := m2 rfl
      rw [if_pos rfl, if_pos (show (-6 : Int32) < 0 by decide)] at rhs
      rw [(cf_rd C1).2.2.2.1, (cf_rd C1).2.2.2.2.1] at lhs
      simp only [Option.bind_some, ite_self] at lhs
      exact ⟨-6, h1, h2, lhs, hc0, go_is G1, rhs, hfin ⟨_, _, _, _, _, C1⟩ ⟨_, _, _, _, _, _, G2⟩⟩
    | false =>
      obtain ⟨p1, p2, p3, C1⟩ := k3 rfl
      obtain ⟨p4, p5, p6, p7, G2⟩ := m3 rfl
      have z : ¬ (false = true) := by decide
      rw [if_neg z, if_neg (n_lt0 (by omega)), (mf_rd G2).2.2.2.2.2.2.2.2.2.1] at rhs
      rw [(cf_rd C1).2.2.2.1, (cf_rd C1).2.2.2.2.1] at lhs
      simp only [Option.bind_some] at lhs rhs
      refine ⟨if v = 0 then nI r2 else nI r3, h1, h2, ?_, hc0, go_is G1, ?_, hfin ⟨_, _, _, _, _, C1⟩ ⟨_, _, _, _, _, _, G2⟩⟩
      · show f_X5_judge h 1 (nI v) = _
        rw [lhs]; split <;> rfl
      · show f_X6_judge h1 31 (nI v) = _
        rw [rhs]; split <;> rfl
  · refine WW.same K S (v := -5) ?_ ?_
    · show f_X5_judge h 1 _ = _
      unfold f_X5_judge
      rw [n1, c3]
      simp only [Option.bind_some]
      rw [if_neg i1_ne0, if_pos (go_is K.pad), hd, hf]
      simp only [Option.bind_some]
      rw [if_neg (n_m6 (by omega))]
    · show f_X6_judge h 31 _ = _
      unfold f_X6_judge
      rw [n2]
      simp only [Option.bind_some]
      rw [if_neg i1_ne0, if_pos (go_is G), hm, hf]
      simp only [Option.bind_some]
      rw [if_neg (n_lt0 (by omega))]
/-- a pad that can be: what the class and the reference come to -/
theorem m_bar (KB : ga h 32 63 N) (KP : ga h 35 60 P) (hP : ∀ i, i < 60 → P i < 127) (hnp : np ≤ 60) (KI : inv N) {g : Nat → Nat} {a : Int32} {b : Bool} {c d e : Int32} {u : Int64} (G : go h 31 6 (mf ns np a b c d e u)) (A : ga h 33 63 g) (hf : flt P np 0 0 = -6) (ha : (mo P 61 0 np N 0 0 (-6)).2.2.1 ≤ np) : ∃ h', f_X6_barOfMonths h 31 = some (if (mo P 61 0 np N 0 0 (-6)).1 = true then 0 else -5, h') ∧ gfr [31, 33] h h' ∧ ga h' 33 63 (mo P 61 0 np N 0 0 (-6)).2.1 ∧
      ((mo P 61 0 np N 0 0 (-6)).1 = true → ∃ sh rs, go h' 31 6 (mf ns np (nI (mo P 61 0 np N 0 0 (-6)).2.2.2.2.1) sh rs (nI (mo P 61 0 np N 0 0 (-6)).2.2.1) (mo P 61 0 np N 0 0 (-6)).2.2.2.2.2 u)) ∧
      (∃ s v w x y, go h' 31 6 (mf ns np s v w x y u)) := by
  obtain ⟨h1, e1, f1, A1, m2, m3⟩ := m_read KB KP hP hnp KI G A hf
  unfold f_X6_barOfMonths
  rw [if_pos (go_is G), m_fault G KP hP hnp, hf]
  simp only [Option.bind_some]
  rw [if_neg (show ¬ (0 : Int32) ≤ -6 by decide), if_pos (go_is G), e1]
  simp only [Option.bind_some]
  generalize mo P 61 0 np N 0 0 (-6) = R at *
  obtain ⟨r0, r1, r2, r3, r4, r5⟩ := R
  simp only at *
  cases r0 with
  | true =>
    obtain ⟨sh, rs, G2⟩ := m2 rfl
    exact ⟨h1, rfl, f1, A1, m2, ⟨_, _, _, _, _, G2⟩⟩
  | false =>
    obtain ⟨p4, p5, p6, p7, G2⟩ := m3 rfl
    have z : ¬ (false = true) := by decide
    rw [if_neg z, if_neg (n_lt0 (by omega))]
    exact ⟨h1, rfl, f1, A1, m2, ⟨_, _, _, _, _, G2⟩⟩
theorem k_behind (K : Core h c0 N ns sg np P im IM) (S : Scr h ns np) (x : Int32) : WW h c0 (fun h => f_X5_behind h 1 x) (fun h => f_X6_behind h 31 x) := by
  obtain ⟨-, -, -, -, -, ⟨a, b, c, d, e, u, G⟩, ⟨gn, A⟩, -⟩ := id S
  rcases ar_in 0 7 0 7 rfl rfl (by decide) (by decide) x with ⟨n1, n2⟩ | ⟨v, -, hv, rfl, n1, n2⟩
  · exact WW.same K S (v := -2) (by unfold f_X5_behind; rw [n1]; rfl) (by unfold f_X6_behind; rw [n2]; rfl)
  obtain ⟨ci, c1, c2, c3, -⟩ := cls_rd K
  have hd := d_fault K.pad K.pds K.hP K.npl
  have hm := m_fault G K.mpd K.hP K.npl
  have hnp := K.npl
  rcases flt_val P np 0 0 (by omega) with hf | ⟨j, hj, hf⟩
  · obtain ⟨h1, e1, f1, B1, I1, k1, k2, k3⟩ := c_read K S hf
    have K1 := K.fr f1 (by decide)
    have G1 := G.fr f1 (by decide)
    obtain ⟨h2, e2, f2, A2, m2, ⟨p4, p5, p6, p7, p8, G2⟩⟩ := m_bar K1.mbk K1.mpd K.hP K.npl K.iv G1 (A.fr f1 (by decide)) hf k1
    have F2 : gfr (crl ++ [31, 33]) h h2 := (f1.mono (by decide)).trans (f2.mono (by decide))
    have K2 := K1.fr f2 (by decide)
    have cc1 := go_fR K1.cls (k := 1) (x := 12) rfl
    have hfin : (∃ a b c d e, go h1 12 1 (cf a b c d e)) → SS h2 c0 := by
      intro ⟨a, b, c, d, e, q1⟩
      exact ⟨N, ns, sg, np, P, im, IM, K2, S.read F2 (by decide) ⟨a, b, c, d, e, q1.fr f2 (by decide)⟩ ⟨_, _, _, B1.fr f2 (by decide)⟩ ⟨_, _, _, _, _, _, G2⟩ ⟨_, A2⟩⟩
    have hc0 : h1[0]? = some c0 := K1.c0
    have lhs : f_X5_behind h 1 (nI v) = f_X5_behind h 1 (nI v) := rfl
    conv at lhs => rhs; unfold f_X5_behind
    rw [n1, c3, c2, c1] at lhs
    simp only [Option.bind_some] at lhs
    rw [if_neg i1_ne0, if_pos (go_is K.pad), hd, hf] at lhs
    simp only [Option.bind_some] at lhs
    rw [if_pos trivial, if_pos S.is12, e1] at lhs
    simp only [Option.bind_some] at lhs
    rw [cc1] at lhs
    simp only [Option.bind_some] at lhs
    have rhs : f_X6_behind h1 31 (nI v) = f_X6_behind h1 31 (nI v) := rfl
    conv at rhs => rhs; unfold f_X6_behind
    rw [n2] at rhs
    simp only [Option.bind_some] at rhs
    rw [if_neg i1_ne0, if_pos (go_is G1), e2] at rhs
    simp only [Option.bind_some] at rhs
    generalize mo P 61 0 np N 0 0 (-6) = R at *
    obtain ⟨r0, r1, r2, r3, r4, r5⟩ := R
    simp only at *
    cases r0 with
    | false =>
      obtain ⟨p1, p2, p3, C1⟩ := k3 rfl
      exact ⟨-5, h1, h2, lhs, hc0, go_is G1, rhs, hfin ⟨_, _, _, _, _, C1⟩⟩
    | true =>
      have C1 := k2 rfl
      obtain ⟨sh, rs, G2⟩ := m2 rfl
      rw [if_neg (show ¬ bI true = 0 by decide), (cf_rd C1).2.1] at lhs
      rw [if_pos (show true = true from rfl), if_pos (show (0 : Int32) ≤ 0 by decide), n_ifge 6 6 rfl (by omega) (by decide), n_ifc 6 6 rfl (by omega) (by decide), (mf_rd G2).2.2.1, n_6a] at rhs
      simp only [Option.bind_some] at lhs rhs
      obtain ⟨ri, s0, s1, s2, s3, s4, s5, q6, q7, q8, q9, q10, q11, q12, q13, q14, a6, a7, -⟩ := bk_rd B1
      by_cases hv4 : v < 4
      · rw [buyer_in hv4] at lhs
        simp only [Option.bind_some] at lhs
        rw [if_neg i1_ne0, q7] at lhs
        simp only [Option.bind_some] at lhs
        rw [a7 v hv4] at lhs
        rw [if_neg (show ¬ 6 ≤ v by omega), ga_rd A2 (by omega) (by decide)] at rhs
        exact ⟨_, h1, h2, lhs, hc0, go_is G1, rhs, hfin ⟨_, _, _, _, _, C1⟩⟩
      · have hb : f_X5_isBuyer (nI v) = some 0 := by
          unfold f_X5_isBuyer
          rw [w_out (l := 0) (u := 3) (Or.inr (by show nI 3 < nI v; rw [nI_ltI (by decide) (by omega)]; omega))]
          rfl
        rw [hb] at lhs
        simp only [Option.bind_some] at lhs
        rw [if_pos trivial, n_ifc 4 4 rfl (by omega) (by decide), n_ifc 5 5 rfl (by omega) (by decide), n_ifc 6 6 rfl (by omega) (by decide), s1, s0, (cf_rd C1).2.2.2.2.2.1, (cf_rd C1).2.2.2.2.2.2] at lhs
        rw [(mf_rd G2).2.2.2.2.2.2.2.1, (mf_rd G2).2.2.2.2.2.2.2.2.2.2.2.1] at rhs
        rcases (show v = 4 ∨ v = 5 ∨ v = 6 ∨ v = 7 by omega) with rfl | rfl | rfl | rfl
        · rw [if_pos rfl] at lhs
          rw [if_neg (by omega), ga_rd A2 (by omega) (by decide)] at rhs
          exact ⟨_, h1, h2, lhs, hc0, go_is G1, rhs, hfin ⟨_, _, _, _, _, C1⟩⟩
        · rw [if_neg (by omega), if_pos rfl] at lhs
          rw [if_neg (by omega), ga_rd A2 (by omega) (by decide)] at rhs
          exact ⟨_, h1, h2, lhs, hc0, go_is G1, rhs, hfin ⟨_, _, _, _, _, C1⟩⟩
        · rw [if_neg (by omega), if_neg (by omega), if_pos rfl] at lhs
          rw [if_pos (by omega), if_pos rfl] at rhs
          exact ⟨_, h1, h2, lhs, hc0, go_is G1, rhs, hfin ⟨_, _, _, _, _, C1⟩⟩
        · rw [if_neg (by omega), if_neg (by omega), if_neg (by omega)] at lhs
          rw [if_pos (by omega), if_neg (by omega)] at rhs
          exact ⟨_, h1, h2, lhs, hc0, go_is G1, rhs, hfin ⟨_, _, _, _, _, C1⟩⟩
  · refine WW.same K S (v := -5) ?_ ?_
    · show f_X5_behind h 1 _ = _
      unfold f_X5_behind
      rw [n1, c3]
      simp only [Option.bind_some]
      rw [if_neg i1_ne0, if_pos (go_is K.pad), hd, hf]
      simp only [Option.bind_some]
      rw [if_neg (n_m6 (by omega))]
    · show f_X6_behind h 31 _ = _
      unfold f_X6_behind f_X6_barOfMonths
      rw [n2]
      simp only [Option.bind_some]
      rw [if_neg i1_ne0, if_pos (go_is G), if_pos (go_is G), hm, hf]
      simp only [Option.bind_some]
      rw [if_pos (show (0 : Int32) ≤ nI j by show nI 0 ≤ nI j; rw [nI_leI (by decide) (by omega)]; omega)]
      rfl
/-- the reference takes the months over -/
theorem m_take {R : Nat → Nat} {a : Int32} {b : Bool} {c d e : Int32} {u : Int64} : ∀ (n j : Nat) (h : gi_H) (g : Nat → Nat), j ≤ 63 → 63 - j < n → go h 31 6 (mf ns np a b c d e u) → ga h 33 63 R → ga h 32 63 g → (∀ i, i < j → g i = R i) → ∃ h', f_X6_done_12 n h 31 (nI j) = some (d, h') ∧ ga h' 32 63 R ∧ go h' 31 6 (mf ns 0 a b c d e u) ∧ gfr [31, 32] h h' := by
  intro n
  induction n with
  | zero => intro j h g _ hn; omega
  | succ n ih =>
    intro j h g hj hn G A B ee
    unfold f_X6_done_12
    rw [n_ifge 63 63 rfl (by omega) (by decide)]
    rcases Nat.lt_or_ge j 63 with hlt | hge
    · obtain ⟨r, r0, r1, -⟩ := mf_rd G
      rw [if_neg (by omega), r1, r0]
      simp only [Option.bind_some]
      rw [ga_rd A hlt (by decide)]
      simp only [Option.bind_some]
      obtain ⟨h1, e1, B1, f1⟩ := ga_wr B hlt (by decide) (R j)
      rw [e1]
      simp only [Option.bind_some]
      rw [nI_1]
      obtain ⟨h2, e2, B2, G2, f2⟩ := ih (j + 1) h1 _ (by omega) (by omega) (G.fr f1 (by decide)) (A.fr f1 (by decide)) B1 (fun i hi => by
        by_cases q : i = j
        · rw [q, gu_self]
        · rw [gu_ne _ _ q]; exact ee i (by omega))
      exact ⟨h2, e2, B2, G2, (f1.mono (by decide)).trans f2⟩
    · rw [if_pos (by omega)]
      unfold f_X6_done_36
      obtain ⟨h1, e1, G1, f1⟩ := mf_w4 G 0
      rw [show (0 : Int32) = nI 0 from rfl, e1]
      simp only [Option.bind_some]
      rw [(mf_rd G1).2.2.2.2.2.2.2.2.2.2.1]
      exact ⟨h1, rfl, (B.fr f1 (by decide)).cong (fun i hi => ee i (by omega)), G1, f1.mono (by decide)⟩
theorem k_done (K : Core h c0 N ns sg np P im IM) (S : Scr h ns np) : WW h c0 (fun h => f_X5_done h 1) (fun h => f_X6_done h 31) := by
  obtain ⟨-, -, -, -, -, ⟨a, b, c, d, e, u, G⟩, ⟨gn, A⟩, -⟩ := id S
  obtain ⟨ci, c1, c2, c3, -⟩ := cls_rd K
  have hd := d_fault K.pad K.pds K.hP K.npl
  have hm := m_fault G K.mpd K.hP K.npl
  have hnp := K.npl
  rcases flt_val P np 0 0 (by omega) with hf | ⟨j, hj, hf⟩
  · obtain ⟨h1, e1, f1, B1, I1, k1, k2, k3⟩ := c_read K S hf
    have K1 := K.fr f1 (by decide)
    have hc0 : h1[0]? = some c0 := K1.c0
    have lhs : f_X5_done h 1 = f_X5_done h 1 := rfl
    conv at lhs => rhs; unfold f_X5_done
    rw [c3, c2, c1] at lhs
    simp only [Option.bind_some] at lhs
    rw [if_pos (go_is K.pad), hd, hf] at lhs
    simp only [Option.bind_some] at lhs
    rw [if_pos trivial, if_pos S.is12, e1] at lhs
    simp only [Option.bind_some] at lhs
    rw [go_fR K1.cls (k := 0) (x := 2) rfl, go_fR K1.cls (k := 1) (x := 12) rfl] at lhs
    simp only [Option.bind_some] at lhs
    cases hR : (mo P 61 0 np N 0 0 (-6)).1 with
    | false =>
      have G1 := G.fr f1 (by decide)
      obtain ⟨h2, e2, f2, A2, m2, ⟨p4, p5, p6, p7, p8, G2⟩⟩ := m_bar K1.mbk K1.mpd K.hP K.npl K.iv G1 (A.fr f1 (by decide)) hf k1
      have F2 : gfr (crl ++ [31, 33]) h h2 := (f1.mono (by decide)).trans (f2.mono (by decide))
      obtain ⟨p1, p2, p3, C1⟩ := k3 hR
      rw [hR] at lhs
      refine ⟨-5, h1, h2, lhs, hc0, go_is G1, ?_, N, ns, sg, np, P, im, IM, K1.fr f2 (by decide), S.read F2 (by decide) ⟨_, _, _, _, _, C1.fr f2 (by decide)⟩ ⟨_, _, _, B1.fr f2 (by decide)⟩ ⟨_, _, _, _, _, _, G2⟩ ⟨_, A2⟩⟩
      show f_X6_done h1 31 = _
      unfold f_X6_done
      rw [if_pos (go_is G1), e2, hR]
      rfl
    | true =>
      have C1 := k2 hR
      rw [hR, if_neg (show ¬ bI true = 0 by decide), (cf_rd C1).2.1] at lhs
      simp only [Option.bind_some] at lhs
      obtain ⟨h2, e2, B2, f2⟩ := d_copy K1.bok B1 (by decide)
      rw [if_pos (bk_rd K1.bok).1, e2] at lhs
      simp only [Option.bind_some] at lhs
      rw [go_fR (K1.cls.fr f2 (by decide)) (k := 2) (x := 23) rfl] at lhs
      simp only [Option.bind_some] at lhs
      obtain ⟨h3, e3, D3, f3⟩ := pf_w (K1.pad.fr f2 (by decide)) 0
      rw [show gi_fp h2 23 3 0 (.int 0) = some h3 from e3] at lhs
      simp only [Option.bind_some] at lhs
      rw [go_fR ((K1.cls.fr f2 (by decide)).fr f3 (by decide)) (k := 1) (x := 12) rfl] at lhs
      simp only [Option.bind_some] at lhs
      have C3 := (C1.fr f2 (by decide)).fr f3 (by decide)
      rw [(cf_rd C3).2.2.1] at lhs
      have F3 : gfr (23 :: (crl ++ bkl 2)) h h3 := ((f1.mono (by decide)).trans (f2.mono (by decide))).trans (f3.mono (by decide))
      have G3 := G.fr F3 (by decide)
      have M3 := K.mbk.fr F3 (by decide)
      have P3 := K.mpd.fr F3 (by decide)
      obtain ⟨h4, e4, f4, A4, m4, -⟩ := m_bar M3 P3 K.hP K.npl K.iv G3 (A.fr F3 (by decide)) hf k1
      obtain ⟨sh, rs, G4⟩ := m4 hR
      obtain ⟨h5, e5, M5, G5, f5⟩ := m_take gi_F 0 h4 N (by omega) (by decide) G4 A4 (M3.fr f4 (by decide)) (fun i hi => by omega)
      have F5 : gfr [31, 32, 33] h3 h5 := (f4.mono (by decide)).trans (f5.mono (by decide))
      have FF : gfr alll h h5 := (F3.mono (by decide)).trans (F5.mono (by decide))
      refine ⟨_, h3, h5, lhs, by rw [F3.2 0 (by decide)]; exact K.c0, go_is G3, ?_, _, ns, sg, 0, P, im, IM, K.new FF ((B2.fr f3 (by decide)).fr F5 (by decide)) M5 ((K.msg.fr F3 (by decide)).fr F5 (by decide)) I1 K.sgl (D3.fr F5 (by decide)) ((K.pds.fr F3 (by decide)).fr F5 (by decide)) (P3.fr F5 (by decide)) K.hP (by omega), ?_⟩
      · show f_X6_done h3 31 = _
        unfold f_X6_done
        rw [if_pos (go_is G3), e4, if_pos hR]
        simp only [Option.bind_some]
        rw [if_pos (show (0 : Int32) ≤ 0 by decide)]
        exact e5
      · refine S.read ((F3.mono (l' := 23 :: (crl ++ bkl 2) ++ [31, 32, 33]) (by decide)).trans (F5.mono (by decide))) (by decide) ⟨_, _, _, _, _, C3.fr F5 (by decide)⟩ ⟨_, _, _, ((B1.fr f2 (by decide)).fr f3 (by decide)).fr F5 (by decide)⟩ ⟨_, _, _, _, _, _, G5⟩ ⟨_, A4.fr f5 (by decide)⟩
  · refine WW.same K S (v := -5) ?_ ?_
    · show f_X5_done h 1 = _
      unfold f_X5_done
      rw [c3]
      simp only [Option.bind_some]
      rw [if_pos (go_is K.pad), hd, hf]
      simp only [Option.bind_some]
      rw [if_neg (n_m6 (by omega))]
    · show f_X6_done h 31 = _
      unfold f_X6_done f_X6_barOfMonths
      rw [if_pos (go_is G), if_pos (go_is G), hm, hf]
      simp only [Option.bind_some]
      rw [if_pos (show (0 : Int32) ≤ nI j by show nI 0 ≤ nI j; rw [nI_leI (by decide) (by omega)]; omega)]
      rfl
end JUDGED
