/-! THE REFERENCE'S MONTHS, 3: a pad read -/
section MONTHS
variable {ns : Nat} {P : Nat → Nat} {np : Nat} {up : Int64}
theorem m_act {h : gi_H} {pd : Int32} {sh : Bool} {rs ac sa : Int32} {N : Nat → Nat} (G : go h 31 6 (mf ns np pd sh rs ac sa up)) (A : ga h 33 63 N) (I : inv N) (D : ga h 35 60 P) (hP : ∀ i, i < 60 → P i < 127) {i l : Nat} (S : shp P i l) (hl : i + l ≤ np) (hnp : np ≤ 60) (n : Nat) : ∃ h', f_X6_goMonths_22 (n + 1) h 31 (nI i) = f_X6_goMonths_197 (f_X6_goMonths_22 n) h' 31 (nI (i + l)) ∧ go h' 31 6 (mf ns np (pd + nI (sp_act P i N).2.2.2.1) (sp_act P i N).2.2.2.2 (nI (sp_act P i N).2.1) ac sa up) ∧ ga h' 33 63 (sp_act P i N).2.2.1 ∧ gfr [31, 33] h h' := by
  have hl0 : 1 ≤ l := by rcases S with ⟨rfl, -⟩ | ⟨rfl, -⟩ | ⟨rfl, -⟩ | ⟨rfl, -⟩ <;> omega
  have hPi := hP i (by omega)
  have x1 : nI i + 1 = nI (i + 1) := nI_1 i
  have x2 : nI i + 2 = nI (i + 2) := nI_add i 2
  have x3 : nI i + 3 = nI (i + 3) := nI_add i 3
  have x4 : nI i + 4 = nI (i + 4) := nI_add i 4
  have z : ∀ v : Int32, v + nI 0 = v := fun v => Int32.add_zero v
  have ma : ∀ j ∈ [31], j ∈ [31, 33] := by decide
  have mb : ∀ j ∈ [33], j ∈ [31, 33] := by decide
  obtain ⟨r, r0, r1, r2, r3, r4, r5, -⟩ := mf_rd G
  unfold f_X6_goMonths_22
  rw [r4]
  simp only [Option.bind_some]
  rw [n_ifle (nI i) i rfl (by omega) (by omega), if_neg (by omega), r5]
  simp only [Option.bind_some]
  rw [ga_rd D (by omega) (by decide)]
  simp only [Option.bind_some]
  obtain ⟨h1, e1, G1, f1⟩ := mf_w7 G false
  rw [show (0 : Int32) = bI false from rfl] at *
  rw [e1]
  simp only [Option.bind_some]
  rw [show bI false = (0 : Int32) from rfl] at *
  have A1 := A.fr f1 (by decide)
  have D1 := D.fr f1 (by decide)
  have g1 := f1.mono ma
  obtain ⟨q, q0, q1, q2, q3, q4, q5, -⟩ := mf_rd G1
  rw [q5, x1, x2, x3, x4, sg_life _ hPi, if_pos q, n_ifc 46 46 rfl (by omega) (by decide)]
  simp only [Option.bind_some, q, if_true]
  rcases S with ⟨rfl, a⟩ | ⟨rfl, a, b⟩ | ⟨rfl, a, b, c, d⟩ | ⟨rfl, a, b, c⟩
  · have hact : sp_act P i N = (1, (sp_month N).1, (sp_month N).2, 0, false) := by unfold sp_act; rw [if_pos a]
    rw [hact, if_pos a]
    obtain ⟨h2, e2, A2, f2⟩ := m_month G1 A1 I
    rw [e2]
    simp only [Option.bind_some]
    obtain ⟨h3, e3, G3, f3⟩ := mf_w8 (G1.fr f2 (by decide)) (nI (sp_month N).1)
    rw [e3]
    refine ⟨h3, rfl, ?_, A2.fr f3 (by decide), (g1.trans (f2.mono mb)).trans (f3.mono ma)⟩
    rw [z]
    exact G3
  · have na : ¬ P i = 46 := by omega
    rw [if_neg na, if_pos a, if_neg i1_ne0, ga_rd D1 (by omega) (by decide), show nI (P i) - 65 = nI (P i - 65) from pk_sub (b := 65) a.1]
    simp only [Option.bind_some]
    by_cases b1 : P (i + 1) = 43
    · have hact : sp_act P i N = (2, (sp_walk N (P i - 65)).1, (sp_walk N (P i - 65)).2, 0, false) := by unfold sp_act; rw [if_neg na, if_pos a, if_pos b1]
      rw [hact, b1]
      obtain ⟨h2, e2, A2, f2⟩ := m_walk G1 A1 I (x := P i - 65) (by omega)
      rw [show nI 43 = (43 : Int32) from rfl, e2]
      simp only [Option.bind_some]
      obtain ⟨h3, e3, G3, f3⟩ := mf_w8 (G1.fr f2 (by decide)) (nI (sp_walk N (P i - 65)).1)
      rw [e3]
      refine ⟨h3, rfl, ?_, A2.fr f3 (by decide), (g1.trans (f2.mono mb)).trans (f3.mono ma)⟩
      rw [z]
      exact G3
    · by_cases b2 : P (i + 1) = 45
      · have hact : sp_act P i N = (2, (sp_rum N (P i - 65)).1, (sp_rum N (P i - 65)).2, 0, false) := by unfold sp_act; rw [if_neg na, if_pos a, if_neg b1, if_pos b2]
        rw [hact, b2]
        obtain ⟨h2, e2, A2, f2⟩ := m_rum G1 A1 I (x := P i - 65) (by omega)
        rw [show nI 45 = (45 : Int32) from rfl, e2]
        simp only [Option.bind_some]
        obtain ⟨h3, e3, G3, f3⟩ := mf_w8 (G1.fr f2 (by decide)) (nI (sp_rum N (P i - 65)).1)
        rw [e3]
        refine ⟨h3, rfl, ?_, A2.fr f3 (by decide), (g1.trans (f2.mono mb)).trans (f3.mono ma)⟩
        rw [z]
        exact G3
      · have hact : sp_act P i N = (2, sp_die N (P i - 65)) := by unfold sp_act; rw [if_neg na, if_pos a, if_neg b1, if_neg b2]
        rw [hact, show P (i + 1) = 120 by omega, show nI 120 = (120 : Int32) from rfl]
        by_cases b3 : (N 12).testBit (P i - 65) = true
        · rw [m_dead G1 A1 I (by omega) b3]
          unfold sp_die
          rw [if_pos b3]
          simp only [Option.bind_some]
          obtain ⟨h3, e3, G3, f3⟩ := mf_w8 G1 (nI 1)
          rw [show (1 : Int32) = nI 1 from rfl, e3]
          refine ⟨h3, rfl, ?_, A1.fr f3 (by decide), g1.trans (f3.mono ma)⟩
          rw [z]
          exact G3
        · obtain ⟨h2, e2, G2, A2, f2⟩ := m_die G1 A1 I (x := P i - 65) (by omega) (by simpa using b3)
          rw [e2]
          unfold sp_die
          rw [if_neg b3]
          rw [Bool.false_or] at G2
          generalize sp_sh (gu N 12 (N 12 ||| 2 ^ (P i - 65))) (P i - 65) 12 = SS at G2 ⊢
          generalize sp_end N (P i - 65) = E at G2 A2 ⊢
          simp only [Option.bind_some]
          obtain ⟨h3, e3, G3, f3⟩ := mf_w8 G2 (nI 0)
          rw [show (0 : Int32) = nI 0 from rfl, e3]
          exact ⟨h3, rfl, G3, A2.fr f3 (by decide), (g1.trans f2).trans (f3.mono ma)⟩
  · have na : ¬ P i = 46 := by omega
    have nb : ¬ (65 ≤ P i ∧ P i ≤ 70) := by omega
    have hact : sp_act P i N = (4, (sp_buy N (P i - 97) (P (i + 1) - 65) (P (i + 2) - 48) (P (i + 3) - 48)).1, (sp_buy N (P i - 97) (P (i + 1) - 65) (P (i + 2) - 48) (P (i + 3) - 48)).2, 0, false) := by unfold sp_act; rw [if_neg na, if_neg nb, if_pos b]
    rw [hact, if_neg na, if_neg nb, if_pos rfl, ga_rd D1 (i := i + 1) (by omega) (by decide), ga_rd D1 (i := i + 2) (by omega) (by decide), ga_rd D1 (i := i + 3) (by omega) (by decide)]
    simp only [Option.bind_some]
    rw [sg_life _ (hP (i + 1) (by omega)), if_pos b]
    simp only [Option.bind_some]
    rw [if_neg i1_ne0, show nI (P i) - 97 = nI (P i - 97) from pk_sub (b := 97) a.1, show nI (P (i + 1)) - 65 = nI (P (i + 1) - 65) from pk_sub (b := 65) b.1, show nI (P (i + 2)) - 48 = nI (P (i + 2) - 48) from pk_sub (b := 48) (by omega), show nI (P (i + 3)) - 48 = nI (P (i + 3) - 48) from pk_sub (b := 48) (by omega)]
    obtain ⟨h2, e2, A2, f2⟩ := m_buy G1 A1 I (b := P i - 97) (x := P (i + 1) - 65) (c := P (i + 2) - 48) (t := P (i + 3) - 48) (by omega) (by omega) (by omega) (by omega) (by omega)
    rw [e2]
    simp only [Option.bind_some]
    obtain ⟨h3, e3, G3, f3⟩ := mf_w8 (G1.fr f2 (by decide)) (nI (sp_buy N (P i - 97) (P (i + 1) - 65) (P (i + 2) - 48) (P (i + 3) - 48)).1)
    rw [e3]
    refine ⟨h3, rfl, ?_, A2.fr f3 (by decide), (g1.trans (f2.mono mb)).trans (f3.mono ma)⟩
    rw [z]
    exact G3
  · have na : ¬ P i = 46 := by omega
    have nb : ¬ (65 ≤ P i ∧ P i ≤ 70) := by omega
    have nc : ¬ (65 ≤ P (i + 1) ∧ P (i + 1) ≤ 70) := by omega
    have hact : sp_act P i N = (3, (sp_pass N (P i - 97) (P (i + 1) - 48) (P (i + 2) - 97)).1, (sp_pass N (P i - 97) (P (i + 1) - 48) (P (i + 2) - 97)).2, 0, false) := by unfold sp_act; rw [if_neg na, if_neg nb, if_neg nc]
    rw [hact, if_neg na, if_neg nb, if_pos rfl, ga_rd D1 (i := i + 1) (by omega) (by decide), ga_rd D1 (i := i + 2) (by omega) (by decide)]
    simp only [Option.bind_some]
    rw [sg_life _ (hP (i + 1) (by omega)), if_neg nc]
    simp only [Option.bind_some]
    rw [if_pos trivial, show nI (P i) - 97 = nI (P i - 97) from pk_sub (b := 97) a.1, show nI (P (i + 1)) - 48 = nI (P (i + 1) - 48) from pk_sub (b := 48) b.1, show nI (P (i + 2)) - 97 = nI (P (i + 2) - 97) from pk_sub (b := 97) c.1]
    obtain ⟨h2, e2, A2, f2⟩ := m_passes G1 A1 I (b := P i - 97) (p := P (i + 1) - 48) (q := P (i + 2) - 97) (by omega) (by omega) (by omega)
    rw [e2]
    simp only [Option.bind_some]
    obtain ⟨h3, e3, G3, f3⟩ := mf_w8 (G1.fr f2 (by decide)) (nI (sp_pass N (P i - 97) (P (i + 1) - 48) (P (i + 2) - 97)).1)
    rw [e3]
    refine ⟨h3, rfl, ?_, A2.fr f3 (by decide), (g1.trans (f2.mono mb)).trans (f3.mono ma)⟩
    rw [z]
    exact G3
theorem m_pad (hP : ∀ i, i < 60 → P i < 127) (hnp : np ≤ 60) : ∀ (f n i : Nat) (N : Nat → Nat) (ac pd : Nat) (sa rs : Int32) (sh : Bool) (h : gi_H), np - i < f → np - i < n → i ≤ np → ac ≤ i → (sa = -6 ∨ ∃ j, j < 1000 ∧ sa = nI j) → flt P (np - i) 0 i = -6 → inv N → go h 31 6 (mf ns np (nI pd) sh rs (nI ac) sa up) → ga h 33 63 N → ga h 35 60 P →
    ∃ h', f_X6_goMonths_22 n h 31 (nI i) = some (if (mo P f i np N ac pd sa).1 = true then -6 else nI (mo P f i np N ac pd sa).2.2.1, h') ∧ gfr [31, 33] h h' ∧ ga h' 33 63 (mo P f i np N ac pd sa).2.1 ∧
      ((mo P f i np N ac pd sa).1 = true → ∃ sh rs, go h' 31 6 (mf ns np (nI (mo P f i np N ac pd sa).2.2.2.2.1) sh rs (nI (mo P f i np N ac pd sa).2.2.1) (mo P f i np N ac pd sa).2.2.2.2.2 up)) ∧
      ((mo P f i np N ac pd sa).1 = false → ∃ u v w x, go h' 31 6 (mf ns np u v (nI (mo P f i np N ac pd sa).2.2.2.1) w x up)) := by
  intro f
  induction f with
  | zero => intro n i N ac pd sa rs sh h hf; omega
  | succ f ih =>
    intro n i N ac pd sa rs sh h hf hn hi hac hsa hflt I G A D
    have ma : ∀ j ∈ [31], j ∈ [31, 33] := by decide
    obtain ⟨n, rfl⟩ : ∃ n', n = n' + 1 := ⟨n - 1, by omega⟩
    unfold mo
    by_cases c : np ≤ i
    · rw [if_pos c]
      obtain ⟨r, r0, r1, r2, r3, r4, r5, -⟩ := mf_rd G
      unfold f_X6_goMonths_22
      rw [r4]
      simp only [Option.bind_some]
      rw [n_ifle (nI i) i rfl (by omega) (by omega), if_pos c]
      exact ⟨h, rfl, gfr.refl _ _, A, fun _ => ⟨_, _, G⟩, fun z => (by cases z)⟩
    · rw [if_neg c]
      obtain ⟨l, l1, l2, S, hflt2⟩ := flt_shp (m := np - i - 1) (i := i) (P := P) (by omega) (by rw [show np - i - 1 + 1 = np - i by omega]; exact hflt)
      rw [show np - i - 1 + 1 - l = np - (i + l) by omega] at hflt2
      obtain ⟨h1, e1, G1, A1, f1⟩ := m_act G A I D hP S (by omega) hnp n
      have I1 := inv_act S I
      have hrs := rs_lt (P := P) (i := i) (l := l) N
      have hlen := act_len S N
      have D1 := D.fr f1 (by decide)
      rw [e1]
      generalize sp_act P i N = R at *
      obtain ⟨r0, r1, r2, r3, r4⟩ := R
      simp only at *
      subst hlen
      obtain ⟨q, q0, q1, q2, q3, q4, q5, q6, q7, q8, q9, q10, -⟩ := mf_rd G1
      unfold f_X6_goMonths_197 f_X6_goMonths_204 f_X6_goMonths_231
      rw [q8, q9, q10, q7]
      simp only [Option.bind_some]
      rw [n_ifle 0 0 rfl (by omega) (by decide)]
      by_cases d : r1 = 0
      · rw [if_pos d, if_pos (show r1 ≤ 0 by omega)]
        have key : (if 0 ≤ sa then f_X6_goMonths_235 (f_X6_goMonths_22 n) h1 31 (nI (i + r0)) 31 sa else if bI r4 = 0 then f_X6_goMonths_235 (f_X6_goMonths_22 n) h1 31 (nI (i + r0)) 31 sa else f_X6_goMonths_235 (f_X6_goMonths_22 n) h1 31 (nI (i + r0)) 31 (nI ac)) = f_X6_goMonths_235 (f_X6_goMonths_22 n) h1 31 (nI (i + r0)) 31 (if sa = -6 ∧ r4 = true then nI ac else sa) := by
          rcases hsa with rfl | ⟨j, hj, rfl⟩
          · rw [if_neg (show ¬ (0 : Int32) ≤ -6 by decide)]
            cases r4 <;> simp [bI]
          · rw [if_pos (show (0 : Int32) ≤ nI j by show nI 0 ≤ nI j; rw [nI_leI (by decide) (by omega)]; omega), if_neg (fun z => n_m6 (by omega) z.1)]
        rw [key]
        have hsa2 : (if sa = -6 ∧ r4 = true then nI ac else sa) = -6 ∨ ∃ j, j < 1000 ∧ (if sa = -6 ∧ r4 = true then nI ac else sa) = nI j := by
          by_cases e : sa = -6 ∧ r4 = true
          · rw [if_pos e]; exact Or.inr ⟨ac, by omega, rfl⟩
          · rw [if_neg e]; exact hsa
        generalize (if sa = -6 ∧ r4 = true then nI ac else sa) = sb at hsa2 ⊢
        unfold f_X6_goMonths_235
        obtain ⟨h2, e2, G2, f2⟩ := mf_w10 G1 sb
        rw [e2]
        simp only [Option.bind_some]
        rw [(mf_rd G2).2.2.2.2.2.2.2.2.2.2.1]
        simp only [Option.bind_some]
        obtain ⟨h3, e3, G3, f3⟩ := mf_w9 G2 (nI (ac + 1))
        rw [nI_1, e3]
        simp only [Option.bind_some]
        rw [nI_add] at G3
        have F := f2.trans f3
        obtain ⟨h4, e4, f4, A4, k2, k3⟩ := ih n (i + r0) r2 (ac + 1) (pd + r3) sb (nI r1) r4 h3 (by omega) (by omega) (by omega) (by omega) hsa2 hflt2 I1 G3 (A1.fr F (by decide)) (D1.fr F (by decide))
        exact ⟨h4, e4, (f1.trans (F.mono ma)).trans f4, A4, k2, k3⟩
      · rw [if_neg d, if_neg (show ¬ r1 ≤ 0 by omega)]
        exact ⟨h1, rfl, f1, A1, fun z => (by cases z), fun _ => ⟨_, _, _, _, G1⟩⟩
end MONTHS
