/-! A PAD READ: the class's course and the reference's months come to the same -/
section PADS
variable {ba wy : Int32} {ns : Nat} {sg : Nat → Nat} {P : Nat → Nat} {np : Nat}
theorem c_act {h : gi_H} {ac pd fs : Int32} {N : Nat → Nat} (G : go h 12 1 (cf ac ba wy pd fs)) (B : bk h 13 N ns sg) (I : inv N) (D : go h 23 3 (pf np)) (A : ga h 24 60 P) (hP : ∀ i, i < 60 → P i < 127) {i l : Nat} (S : shp P i l) (hl : i + l ≤ 60) : ∃ h', f_X1_tryAct h 12 23 (nI i) = some (nI (sp_act P i N).2.1, h') ∧ go h' 12 1 (cf ac ba wy (pd + nI (sp_act P i N).2.2.2.1) (if fs = -6 ∧ (sp_act P i N).2.2.2.2 = true then ac else fs)) ∧ bk h' 13 (sp_act P i N).2.2.1 ns sg ∧ gfr crl h h' := by
  obtain ⟨g, g0, g1, g2, g3, g4, g5⟩ := cf_rd G
  have ri := (bk_rd B).1
  have k12 : (12 : Nat) ∉ bkl 13 := by decide
  have m1 : ∀ j ∈ bkl 13, j ∈ crl := by decide
  have hl0 : 1 ≤ l := by rcases S with ⟨rfl, -⟩ | ⟨rfl, -⟩ | ⟨rfl, -⟩ | ⟨rfl, -⟩ <;> omega
  have hPi := hP i (by omega)
  have x1 : nI i + 1 = nI (i + 1) := nI_1 i
  have x2 : nI i + 2 = nI (i + 2) := nI_add i 2
  have x3 : nI i + 3 = nI (i + 3) := nI_add i 3
  have z : ∀ v : Int32, v + nI 0 = v := fun v => Int32.add_zero v
  unfold f_X1_tryAct f_X3_lifeOf f_X3_buyerOf
  rw [if_pos (go_is D), d_sign D A (by omega), x1, x2, x3, d_sign' D A (i + 1) (by omega), d_sign' D A (i + 2) (by omega), d_sign' D A (i + 3) (by omega), g0]
  simp only [Option.bind_some, go_is D, g, ri, if_true]
  rw [n_ifc 46 46 rfl (by omega) (by decide), sg_lifeD _ hPi]
  simp only [Option.bind_some]
  rcases S with ⟨rfl, a⟩ | ⟨rfl, a, b⟩ | ⟨rfl, a, b, c, d⟩ | ⟨rfl, a, b, c⟩
  · have hact : sp_act P i N = (1, (sp_month N).1, (sp_month N).2, 0, false) := by unfold sp_act; rw [if_pos a]
    rw [hact, if_pos a]
    obtain ⟨h1, e1, B1, f1⟩ := d_month B I
    rw [e1]
    refine ⟨h1, rfl, ?_, B1, f1.mono m1⟩
    rw [if_neg (by simp), z]
    exact G.fr f1 k12
  · have na : ¬ P i = 46 := by omega
    rw [if_neg na, if_pos a, if_neg i1_ne0, if_pos (show i + 1 < 60 by omega), show nI (P i) - 65 = nI (P i - 65) from pk_sub (b := 65) a.1]
    by_cases b1 : P (i + 1) = 43
    · have hact : sp_act P i N = (2, (sp_walk N (P i - 65)).1, (sp_walk N (P i - 65)).2, 0, false) := by unfold sp_act; rw [if_neg na, if_pos a, if_pos b1]
      rw [hact, b1]
      unfold f_X1_tryFate
      rw [if_pos (show nI 43 = 43 from rfl), g0]
      simp only [Option.bind_some]
      rw [if_pos ri]
      obtain ⟨h1, e1, B1, f1⟩ := d_walk B I (x := P i - 65) (by omega)
      rw [e1]
      refine ⟨h1, rfl, ?_, B1, f1.mono m1⟩
      rw [if_neg (by simp), z]
      exact G.fr f1 k12
    · by_cases b2 : P (i + 1) = 45
      · have hact : sp_act P i N = (2, (sp_rum N (P i - 65)).1, (sp_rum N (P i - 65)).2, 0, false) := by unfold sp_act; rw [if_neg na, if_pos a, if_neg b1, if_pos b2]
        rw [hact, b2]
        unfold f_X1_tryFate
        rw [if_neg (show ¬ nI 45 = 43 by decide), if_pos (show nI 45 = 45 from rfl), g0]
        simp only [Option.bind_some]
        rw [if_pos ri]
        obtain ⟨h1, e1, B1, f1⟩ := d_rum B I (x := P i - 65) (by omega)
        rw [e1]
        refine ⟨h1, rfl, ?_, B1, f1.mono m1⟩
        rw [if_neg (by simp), z]
        exact G.fr f1 k12
      · have hact : sp_act P i N = (2, sp_die N (P i - 65)) := by unfold sp_act; rw [if_neg na, if_pos a, if_neg b1, if_neg b2]
        rw [hact, show P (i + 1) = 120 by omega]
        obtain ⟨h1, e1, G1, B1, f1⟩ := c_die G B I (x := P i - 65) (by omega)
        rw [show (nI 120) = (120 : Int32) from rfl, e1]
        exact ⟨h1, rfl, G1, B1, f1⟩
  · have na : ¬ P i = 46 := by omega
    have nb : ¬ (65 ≤ P i ∧ P i ≤ 70) := by omega
    have hact : sp_act P i N = (4, (sp_buy N (P i - 97) (P (i + 1) - 65) (P (i + 2) - 48) (P (i + 3) - 48)).1, (sp_buy N (P i - 97) (P (i + 1) - 65) (P (i + 2) - 48) (P (i + 3) - 48)).2, 0, false) := by unfold sp_act; rw [if_neg na, if_neg nb, if_pos b]
    rw [hact, if_neg na, if_neg nb, if_pos rfl, if_pos (show i + 1 < 60 by omega), if_pos (show i + 2 < 60 by omega), if_pos (show i + 3 < 60 by omega), sg_lifeD _ (hP (i + 1) (by omega)), if_pos b]
    simp only [Option.bind_some]
    rw [if_neg i1_ne0, show nI (P i) - 97 = nI (P i - 97) from pk_sub (b := 97) a.1, show nI (P (i + 1)) - 65 = nI (P (i + 1) - 65) from pk_sub (b := 65) b.1, show nI (P (i + 2)) - 48 = nI (P (i + 2) - 48) from pk_sub (b := 48) (by omega), show nI (P (i + 3)) - 48 = nI (P (i + 3) - 48) from pk_sub (b := 48) (by omega)]
    obtain ⟨h1, e1, B1, f1⟩ := d_buy B I (b := P i - 97) (x := P (i + 1) - 65) (c := P (i + 2) - 48) (t := P (i + 3) - 48) (by omega) (by omega) (by omega) (by omega) (by omega)
    rw [e1]
    refine ⟨h1, rfl, ?_, B1, f1.mono m1⟩
    rw [if_neg (by simp), z]
    exact G.fr f1 k12
  · have na : ¬ P i = 46 := by omega
    have nb : ¬ (65 ≤ P i ∧ P i ≤ 70) := by omega
    have nc : ¬ (65 ≤ P (i + 1) ∧ P (i + 1) ≤ 70) := by omega
    have hact : sp_act P i N = (3, (sp_pass N (P i - 97) (P (i + 1) - 48) (P (i + 2) - 97)).1, (sp_pass N (P i - 97) (P (i + 1) - 48) (P (i + 2) - 97)).2, 0, false) := by unfold sp_act; rw [if_neg na, if_neg nb, if_neg nc]
    rw [hact, if_neg na, if_neg nb, if_pos rfl, if_pos (show i + 1 < 60 by omega), if_pos (show i + 2 < 60 by omega), sg_lifeD _ (hP (i + 1) (by omega)), if_neg nc]
    simp only [Option.bind_some]
    rw [if_pos trivial, show nI (P i) - 97 = nI (P i - 97) from pk_sub (b := 97) a.1, show nI (P (i + 1)) - 48 = nI (P (i + 1) - 48) from pk_sub (b := 48) b.1, show nI (P (i + 2)) - 97 = nI (P (i + 2) - 97) from pk_sub (b := 97) c.1]
    obtain ⟨h1, e1, B1, f1⟩ := d_pass B I (b := P i - 97) (p := P (i + 1) - 48) (q := P (i + 2) - 97) (by omega) (by omega) (by omega)
    rw [e1]
    refine ⟨h1, rfl, ?_, B1, f1.mono m1⟩
    rw [if_neg (by simp), z]
    exact G.fr f1 k12
/-- a sign that does not end an act -/
theorem c_more {h : gi_H} {ac pd fs : Int32} (G : go h 12 1 (cf ac (-6) wy pd fs)) (D : go h 23 3 (pf np)) (A : ga h 24 60 P) (hP : ∀ i, i < 60 → P i < 127) (n st s : Nat) {i : Nat} (hs : s < 6) (hi : i < np) (hnp : np ≤ 60) (h0 : stp s (P i) ≠ 0) (h6 : stp s (P i) ≠ 6) : f_X1_readPad_44 (n + 1) h 12 23 (nI s) (nI st) (nI i) = f_X1_readPad_44 n h 12 23 (nI (stp s (P i))) (nI st) (nI (i + 1)) := by
  obtain ⟨g, g0, g1, g2, g3, g4, g5⟩ := cf_rd G
  have hPi := hP i (by omega)
  have hle := stp_le s hs _ hPi
  conv => lhs; unfold f_X1_readPad_44
  rw [go_fI D (k := 0) (x := nI np) rfl, g2]
  simp only [Option.bind_some]
  rw [n_ifle (nI i) i rfl (by omega) (by omega), if_neg (by omega), if_pos trivial, if_pos (go_is D), d_sign D A (by omega)]
  simp only [Option.bind_some]
  rw [stp_d s hs _ hPi, if_neg h6]
  simp only [Option.bind_some]
  rw [if_neg (fun z => h0 ((n_eq0 (by omega)).mp z)), nI_1]
theorem c_last {h : gi_H} {ac pd fs : Int32} (G : go h 12 1 (cf ac (-6) wy pd fs)) (D : go h 23 3 (pf np)) (A : ga h 24 60 P) (hP : ∀ i, i < 60 → P i < 127) (n st s : Nat) {i : Nat} (hs : s < 6) (hi : i < np) (hnp : np ≤ 60) (h0 : stp s (P i) = 0) : f_X1_readPad_44 (n + 1) h 12 23 (nI s) (nI st) (nI i) = (f_X1_tryAct h 12 23 (nI st)).bind fun y9 => if y9.1 = 0 then f_X1_readPad_105 (f_X1_readPad_44 n) y9.2 12 23 0 (nI i)
  else (gi_fI y9.2 12 1 1).bind fun y12 => (gi_fp y9.2 12 1 2 (.int y12)).bind fun h13 => (gi_fp h13 12 1 3 (.int y9.1)).bind fun h14 => f_X1_readPad_105 (f_X1_readPad_44 n) h14 12 23 0 (nI i) := by
  obtain ⟨g, g0, g1, g2, g3, g4, g5⟩ := cf_rd G
  have hPi := hP i (by omega)
  conv => lhs; unfold f_X1_readPad_44
  rw [go_fI D (k := 0) (x := nI np) rfl, g2]
  simp only [Option.bind_some]
  rw [n_ifle (nI i) i rfl (by omega) (by omega), if_neg (by omega), if_pos trivial, if_pos (go_is D), d_sign D A (by omega)]
  simp only [Option.bind_some]
  rw [stp_d s hs _ hPi, if_neg (by omega), h0]
  simp only [Option.bind_some]
  rw [if_pos (show nI 0 = 0 from rfl), if_pos g]
  rfl
/-- the signs of an act -/
theorem c_signs {h : gi_H} {ac pd fs : Int32} (G : go h 12 1 (cf ac (-6) wy pd fs)) (D : go h 23 3 (pf np)) (A : ga h 24 60 P) (hP : ∀ i, i < 60 → P i < 127) (n : Nat) {i l : Nat} (S : shp P i l) (hl : i + l ≤ np) (hnp : np ≤ 60) : f_X1_readPad_44 (n + l) h 12 23 0 (nI i) (nI i) = (f_X1_tryAct h 12 23 (nI i)).bind fun y9 => if y9.1 = 0 then f_X1_readPad_105 (f_X1_readPad_44 n) y9.2 12 23 0 (nI (i + l - 1))
  else (gi_fI y9.2 12 1 1).bind fun y12 => (gi_fp y9.2 12 1 2 (.int y12)).bind fun h13 => (gi_fp h13 12 1 3 (.int y9.1)).bind fun h14 => f_X1_readPad_105 (f_X1_readPad_44 n) h14 12 23 0 (nI (i + l - 1)) := by
  have hs0 : stp 0 (P i) = if P i = 46 then 0 else if 65 ≤ P i ∧ P i ≤ 70 then 5 else if 97 ≤ P i ∧ P i ≤ 100 then 1 else 6 := rfl
  have hs1 : stp 1 (P (i + 1)) = if 65 ≤ P (i + 1) ∧ P (i + 1) ≤ 70 then 2 else if 48 ≤ P (i + 1) ∧ P (i + 1) ≤ 57 then 4 else 6 := rfl
  have hs2 : stp 2 (P (i + 2)) = if 49 ≤ P (i + 2) ∧ P (i + 2) ≤ 57 then 3 else 6 := rfl
  have hs3 : stp 3 (P (i + 3)) = if 49 ≤ P (i + 3) ∧ P (i + 3) ≤ 57 then 0 else 6 := rfl
  have hs4 : stp 4 (P (i + 2)) = if 97 ≤ P (i + 2) ∧ P (i + 2) ≤ 100 then 0 else 6 := rfl
  have hs5 : stp 5 (P (i + 1)) = if P (i + 1) = 43 ∨ P (i + 1) = 45 ∨ P (i + 1) = 120 then 0 else 6 := rfl
  rcases S with ⟨rfl, a⟩ | ⟨rfl, a, b⟩ | ⟨rfl, a, b, c, d⟩ | ⟨rfl, a, b, c⟩
  · rw [if_pos a] at hs0
    exact c_last G D A hP n i 0 (by omega) (by omega) hnp hs0
  · rw [if_neg (by omega), if_pos a] at hs0
    rw [if_pos b] at hs5
    have e1 := c_more G D A hP (n + 1) i 0 (i := i) (by omega) (by omega) hnp (by omega) (by omega)
    rw [hs0] at e1
    refine e1.trans ?_
    exact c_last G D A hP n i 5 (i := i + 1) (by omega) (by omega) hnp hs5
  · rw [if_neg (by omega), if_neg (by omega), if_pos a] at hs0
    rw [if_pos b] at hs1
    rw [if_pos c] at hs2
    rw [if_pos d] at hs3
    have e1 := c_more G D A hP (n + 3) i 0 (i := i) (by omega) (by omega) hnp (by omega) (by omega)
    rw [hs0] at e1
    refine e1.trans ?_
    have e2 := c_more G D A hP (n + 2) i 1 (i := i + 1) (by omega) (by omega) hnp (by omega) (by omega)
    rw [hs1] at e2
    refine e2.trans ?_
    have e3 := c_more G D A hP (n + 1) i 2 (i := i + 2) (by omega) (by omega) hnp (by omega) (by omega)
    rw [hs2] at e3
    refine e3.trans ?_
    exact c_last G D A hP n i 3 (i := i + 3) (by omega) (by omega) hnp hs3
  · rw [if_neg (by omega), if_neg (by omega), if_pos a] at hs0
    rw [if_neg (by omega), if_pos b] at hs1
    rw [if_pos c] at hs4
    have e1 := c_more G D A hP (n + 2) i 0 (i := i) (by omega) (by omega) hnp (by omega) (by omega)
    rw [hs0] at e1
    refine e1.trans ?_
    have e2 := c_more G D A hP (n + 1) i 1 (i := i + 1) (by omega) (by omega) hnp (by omega) (by omega)
    rw [hs1] at e2
    refine e2.trans ?_
    exact c_last G D A hP n i 4 (i := i + 2) (by omega) (by omega) hnp hs4
/-- all acts: whether each can be, book, acts, reason, paid, first short -/
def mo (P : Nat → Nat) : Nat → Nat → Nat → (Nat → Nat) → Nat → Nat → Int32 → Bool × (Nat → Nat) × Nat × Nat × Nat × Int32
  | 0, _, _, N, ac, pd, sa => (true, N, ac, 0, pd, sa)
  | f + 1, i, np, N, ac, pd, sa => if np ≤ i then (true, N, ac, 0, pd, sa)
    else if (sp_act P i N).2.1 = 0 then mo P f (i + (sp_act P i N).1) np (sp_act P i N).2.2.1 (ac + 1) (pd + (sp_act P i N).2.2.2.1) (if sa = -6 ∧ (sp_act P i N).2.2.2.2 = true then nI ac else sa)
    else (false, (sp_act P i N).2.2.1, ac, (sp_act P i N).2.1, pd, sa)
theorem rs_lt {P : Nat → Nat} {i l : Nat} (N : Nat → Nat) : (sp_act P i N).2.1 ≤ 7 := by
  unfold sp_act sp_month sp_walk sp_rum sp_die sp_buy sp_pass
  repeat (first | (split) | (simp))
/-- the class -/
theorem c_pad (hP : ∀ i, i < 60 → P i < 127) (hnp : np ≤ 60) : ∀ (f n i : Nat) (N : Nat → Nat) (ac pd : Nat) (sa : Int32) (h : gi_H), np - i < f → np - i < n → i ≤ np → ac ≤ i → flt P (np - i) 0 i = -6 → inv N → go h 12 1 (cf (nI ac) (-6) (-6) (nI pd) sa) → bk h 13 N ns sg → go h 23 3 (pf np) → ga h 24 60 P →
    ∃ h', f_X1_readPad_44 n h 12 23 0 (nI i) (nI i) = some (bI (mo P f i np N ac pd sa).1, h') ∧ gfr crl h h' ∧ bk h' 13 (mo P f i np N ac pd sa).2.1 ns sg ∧ inv (mo P f i np N ac pd sa).2.1 ∧ (mo P f i np N ac pd sa).2.2.1 ≤ np ∧
      ((mo P f i np N ac pd sa).1 = true → go h' 12 1 (cf (nI (mo P f i np N ac pd sa).2.2.1) (-6) (-6) (nI (mo P f i np N ac pd sa).2.2.2.2.1) (mo P f i np N ac pd sa).2.2.2.2.2)) ∧
      ((mo P f i np N ac pd sa).1 = false → ∃ u v w, go h' 12 1 (cf u (nI (mo P f i np N ac pd sa).2.2.1) (nI (mo P f i np N ac pd sa).2.2.2.1) v w)) := by
  intro f
  induction f with
  | zero => intro n i N ac pd sa h hf; omega
  | succ f ih =>
    intro n i N ac pd sa h hf hn hi hac hflt I G B D A
    have m2 : ∀ j ∈ [12], j ∈ crl := by decide
    have n13 : ∀ j, j ∈ bkl 13 → j ∉ [12] := by decide
    unfold mo
    by_cases c : np ≤ i
    · rw [if_pos c]
      obtain ⟨n, rfl⟩ : ∃ n', n = n' + 1 := ⟨n - 1, by omega⟩
      obtain ⟨g, g0, g1, g2, g3, g4, g5⟩ := cf_rd G
      unfold f_X1_readPad_44 f_X1_readPad_127
      rw [go_fI D (k := 0) (x := nI np) rfl, g2]
      simp only [Option.bind_some]
      rw [n_ifle (nI i) i rfl (by omega) (by omega), if_pos c]
      exact ⟨h, rfl, gfr.refl _ _, B, I, by show ac ≤ np; omega, fun _ => G, fun z => by cases z⟩
    · rw [if_neg c]
      obtain ⟨l, l1, l2, S, hflt2⟩ := flt_shp (m := np - i - 1) (i := i) (P := P) (by omega) (by rw [show np - i - 1 + 1 = np - i by omega]; exact hflt)
      rw [show np - i - 1 + 1 - l = np - (i + l) by omega] at hflt2
      obtain ⟨n, rfl⟩ : ∃ n', n = n' + l := ⟨n - l, by omega⟩
      rw [c_signs G D A hP n S (by omega) hnp]
      obtain ⟨h1, e1, G1, B1, f1⟩ := c_act G B I D A hP S (by omega)
      have I1 := inv_act S I
      have hrs := rs_lt (P := P) (i := i) (l := l) N
      have hlen := act_len S N
      have D1 := D.fr f1 (by decide)
      have A1 := A.fr f1 (by decide)
      rw [e1]
      simp only [Option.bind_some]
      generalize sp_act P i N = R at *
      obtain ⟨r0, r1, r2, r3, r4⟩ := R
      simp only at *
      subst hlen
      rw [n_if0 (by omega)]
      unfold f_X1_readPad_105
      have x : nI (i + r0 - 1) + 1 = nI (i + r0) := by rw [nI_1]; congr 1; omega
      rw [x]
      by_cases d : r1 = 0
      · rw [if_pos d, if_pos d, (cf_rd G1).2.2.1]
        simp only [Option.bind_some]
        obtain ⟨h2, e2, G2, f2⟩ := cf_w1 G1 (nI (ac + 1))
        rw [nI_1, e2]
        simp only [Option.bind_some]
        rw [nI_add] at G2
        obtain ⟨h3, e3, f3, B3, I3, k1, k2, k3⟩ := ih n (i + r0) r2 (ac + 1) (pd + r3) _ h2 (by omega) (by omega) (by omega) (by omega) hflt2 I1 G2 (B1.fr f2 n13) (D1.fr f2 (by decide)) (A1.fr f2 (by decide))
        exact ⟨h3, e3, (f1.trans (f2.mono m2)).trans f3, B3, I3, k1, k2, k3⟩
      · rw [if_neg d, if_neg d, (cf_rd G1).2.2.1]
        simp only [Option.bind_some]
        obtain ⟨h2, e2, G2, f2⟩ := cf_w2 G1 (nI ac)
        rw [e2]
        simp only [Option.bind_some]
        obtain ⟨h3, e3, G3, f3⟩ := cf_w3 G2 (nI r1)
        rw [e3]
        simp only [Option.bind_some]
        rw [(cf_rd G3).2.2.1]
        simp only [Option.bind_some]
        obtain ⟨h4, e4, G4, f4⟩ := cf_w1 G3 (nI ac + 1)
        rw [e4]
        simp only [Option.bind_some]
        have F : gfr [12] h1 h4 := (f2.trans f3).trans f4
        have D4 := D1.fr F (by decide)
        obtain ⟨n, rfl⟩ : ∃ n', n = n' + 1 := ⟨n - 1, by omega⟩
        obtain ⟨q, q0, q1, q2, -⟩ := cf_rd G4
        unfold f_X1_readPad_44 f_X1_readPad_127
        rw [go_fI D4 (k := 0) (x := nI np) rfl, q2]
        simp only [Option.bind_some]
        rw [if_neg (n_m6 (show ac < 2 ^ 31 by omega)), if_neg (n_m6 (show ac < 2 ^ 31 by omega)), ite_self]
        refine ⟨h4, rfl, f1.trans (F.mono m2), B1.fr F n13, I1, by omega, fun z => (by cases z), fun _ => ⟨_, _, _, G4⟩⟩
end PADS
