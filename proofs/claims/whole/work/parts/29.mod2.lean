/-! THE REFERENCE'S MONTHS, 2: deaths, fates, months' ends, the copy -/
/-! comparisons of numbers -/
theorem n_ifc {α : Type} {a : Nat} (L : Int32) (l : Nat) (hL : L = nI l) (ha : a < 2 ^ 31) (hl : l < 2 ^ 31) (x y : α) : (if nI a = L then x else y) = if a = l then x else y := by
  subst hL
  by_cases c : a = l
  · rw [if_pos c, if_pos (by rw [c])]
  · rw [if_neg c, if_neg (n_ne ha hl c)]
theorem n_iflt {α : Type} {a : Nat} (L : Int32) (l : Nat) (hL : L = nI l) (ha : a < 2 ^ 31) (hl : l < 2 ^ 31) (x y : α) : (if nI a < L then x else y) = if a < l then x else y := by
  subst hL
  by_cases c : a < l
  · rw [if_pos c, if_pos ((nI_ltI ha hl).mpr c)]
  · rw [if_neg c, if_neg (fun z => c ((nI_ltI ha hl).mp z))]
theorem n_ifle {α : Type} {a : Nat} (L : Int32) (l : Nat) (hL : L = nI l) (ha : a < 2 ^ 31) (hl : l < 2 ^ 31) (x y : α) : (if nI a ≤ L then x else y) = if a ≤ l then x else y := by
  subst hL
  by_cases c : a ≤ l
  · rw [if_pos c, if_pos ((nI_leI ha hl).mpr c)]
  · rw [if_neg c, if_neg (fun z => c ((nI_leI ha hl).mp z))]
theorem n_ifgt {α : Type} {a : Nat} (L : Int32) (l : Nat) (hL : L = nI l) (ha : a < 2 ^ 31) (hl : l < 2 ^ 31) (x y : α) : (if L < nI a then x else y) = if l < a then x else y := by
  subst hL
  exact n_iflt _ _ rfl hl ha x y
theorem n_ifge {α : Type} {a : Nat} (L : Int32) (l : Nat) (hL : L = nI l) (ha : a < 2 ^ 31) (hl : l < 2 ^ 31) (x y : α) : (if L ≤ nI a then x else y) = if l ≤ a then x else y := by
  subst hL
  exact n_ifle _ _ rfl hl ha x y
/-- whether a policy of 0 to n - 1 is paid short -/
def sp_sh (N : Nat → Nat) (k : Nat) : Nat → Bool
  | 0 => false
  | n + 1 => sp_sh N k n || decide ((sp_pays N k n 14).testBit n = true ∧ sp_pays N k n (16 + 4 * n) = k ∧ sp_pays N k n 10 < sp_pays N k n (17 + 4 * n))
theorem gets_comm (M : Nat → Nat) {b : Nat} (hb : b < 4) (m v : Nat) : sp_gets (gu M 10 v) b m = gu (sp_gets M b m) 10 v := by
  funext i
  unfold sp_gets
  rw [gu_ne _ _ (show 6 + b ≠ 10 by omega)]
  unfold gu
  by_cases q : i = 10
  · rw [if_pos q, if_neg (by omega), if_pos q]
  · rw [if_neg q, if_neg q]
theorem pay_10 (M : Nat → Nat) (k p : Nat) : sp_pay M k p 10 = if (M 14).testBit p = true ∧ M (16 + 4 * p) = k then M 10 - min (M (17 + 4 * p)) (M 10) else M 10 := by
  unfold sp_pay
  split
  · rw [gone_ne _ _ (by omega) (by omega), gu_self]
  · rfl
theorem pays_10 (N : Nat → Nat) (k : Nat) : ∀ n, sp_pays N k n 10 ≤ N 10 := by
  intro n
  induction n with
  | zero => exact Nat.le_refl _
  | succ n ih =>
    show sp_pay (sp_pays N k n) k n 10 ≤ _
    rw [pay_10]
    split <;> omega
theorem bI_ok (t : Bool) : bI t = 0 ∨ bI t = 1 := by cases t <;> simp [bI]
section MOD2
variable {ns np : Nat} {pd : Int32} {sh : Bool} {rs ac sa : Int32} {up : Int64}
theorem m_97 {h : gi_H} {M : Nat → Nat} (G : go h 31 6 (mf ns np pd sh rs ac sa up)) (A : ga h 33 63 M) (I : inv M) {x p m : Nat} (hp : p < 12) (hm : m ≤ M 10) (t : Bool) (K : gi_H → Nat → Int32 → Int32 → Option gi_H) : ∃ h', f_X6_end_97 K h 31 (nI x) (nI p) (nI m) 31 (bI t) = K h' 31 (nI x) (nI (p + 1)) ∧ go h' 31 6 (mf ns np (pd + nI m) t rs ac sa up) ∧ ga h' 33 63 (sp_gone (gu (sp_gets M (M (15 + 4 * p)) m) 10 (M 10 - m)) p) ∧ gfr [31, 33] h h' := by
  obtain ⟨i1, i2, i3, i4, i5, i6, i7, i8, i9⟩ := I
  have j1 := (i8 p hp).1
  have j2 := i2 (M (15 + 4 * p)) (by omega)
  unfold f_X6_end_97 f_X6_holder
  rw [if_pos (bI_ok t)]
  obtain ⟨h1, e1, G1, f1⟩ := mf_w7 G t
  rw [e1]
  simp only [Option.bind_some]
  have A1 := A.fr f1 (by decide)
  obtain ⟨r, r0, r1, -⟩ := mf_rd G1
  rw [r1]
  simp only [Option.bind_some]
  rw [ga_rl A1 (I := 10) (i := 10) rfl (by decide) (by decide)]
  simp only [Option.bind_some]
  rw [pk_sub hm]
  obtain ⟨h2, e2, A2, f2⟩ := ga_wl A1 (I := 10) (i := 10) rfl (by decide) (by decide) (M 10 - m)
  rw [e2]
  simp only [Option.bind_some]
  have G2 := G1.fr f2 (by decide)
  obtain ⟨-, -, -, -, -, -, -, r6, -⟩ := mf_rd G2
  rw [r6]
  simp only [Option.bind_some]
  obtain ⟨h3, e3, G3, f3⟩ := mf_w6 G2 (pd + nI m)
  rw [e3]
  simp only [Option.bind_some]
  have A3 := A2.fr f3 (by decide)
  obtain ⟨q, q0, q1, -⟩ := mf_rd G3
  rw [if_pos q, q1]
  simp only [Option.bind_some]
  rw [ga_rl A3 (n_15 p) (by omega) (by decide), gu_ne _ _ (by omega)]
  simp only [Option.bind_some]
  rw [if_pos q]
  obtain ⟨h4, e4, A4, f4⟩ := m_gets G3 A3 (b := M (15 + 4 * p)) (m := m) (by omega) (by omega) (by rw [gu_ne _ _ (by omega)]; exact j2)
  rw [e4]
  simp only [Option.bind_some]
  have G4 := G3.fr f4 (by decide)
  rw [if_pos (mf_rd G4).1]
  rw [gets_comm _ (by omega)] at A4
  obtain ⟨h5, e5, A5, f5⟩ := m_gone G4 A4 (p := p) (by rw [gu_ne _ _ (by omega)]; unfold sp_gets; rw [gu_ne _ _ (by omega)]; exact i7) hp
  rw [e5]
  simp only [Option.bind_some]
  rw [nI_1]
  refine ⟨h5, rfl, G4.fr f5 (by decide), A5, ?_⟩
  have g1 := f1.mono (l' := [31, 33]) (by decide)
  have g2 := f2.mono (l' := [31, 33]) (by decide)
  have g3 := f3.mono (l' := [31, 33]) (by decide)
  have g4 := f4.mono (l' := [31, 33]) (by decide)
  have g5 := f5.mono (l' := [31, 33]) (by decide)
  exact (((g1.trans g2).trans g3).trans g4).trans g5
theorem m_pays {N : Nat → Nat} (I : inv N) {x : Nat} (hx : x < 6) : ∀ (n p : Nat) (h : gi_H), p ≤ 12 → 12 - p < n → go h 31 6 (mf ns np (pd + nI (N 10 - sp_pays N x p 10)) (sh || sp_sh N x p) rs ac sa up) → ga h 33 63 (sp_pays N x p) → ∃ h', f_X6_end_15 n h 31 (nI x) (nI p) = some h' ∧ go h' 31 6 (mf ns np (pd + nI (N 10 - sp_pays N x 12 10)) (sh || sp_sh N x 12) rs ac sa up) ∧ ga h' 33 63 (sp_pays N x 12) ∧ gfr [31, 33] h h' := by
  intro n
  induction n with
  | zero => intro p h _ hn; omega
  | succ n ih =>
    intro p h hp hn G A
    unfold f_X6_end_15
    rcases Nat.lt_or_ge p 12 with hlt | hge
    · rw [if_neg (by show ¬ nI 12 ≤ nI p; rw [nI_leI (by decide) (by omega)]; omega)]
      have I2 := inv_pays I x p (by omega)
      have hstep : sp_pays N x (p + 1) = sp_pay (sp_pays N x p) x p := rfl
      have hsh : sp_sh N x (p + 1) = (sp_sh N x p || decide ((sp_pays N x p 14).testBit p = true ∧ sp_pays N x p (16 + 4 * p) = x ∧ sp_pays N x p 10 < sp_pays N x p (17 + 4 * p))) := rfl
      have hle := pays_10 N x p
      generalize sp_pays N x p = M at *
      obtain ⟨i1, i2, i3, i4, i5, i6, i7, i8, i9⟩ := id I2
      obtain ⟨j1, j2, ⟨c, jc, j3⟩, j4⟩ := i8 p hlt
      obtain ⟨r, r0, r1, -, -, -, -, -, r7, -⟩ := mf_rd G
      rw [r1]
      simp only [Option.bind_some]
      rw [ga_rl A (I := 14) (i := 14) rfl (by decide) (by decide)]
      simp only [Option.bind_some]
      rw [x6_has (by omega) (by omega)]
      simp only [Option.bind_some]
      rw [n_ifb]
      by_cases c1 : (M 14).testBit p = true
      · rw [if_pos c1, if_pos r]
        unfold f_X6_lifeOf f_X6_sumOf
        rw [r1]
        simp only [Option.bind_some]
        rw [ga_rl A (n_16 p) (by omega) (by decide), ga_rl A (n_17 p) (by omega) (by decide), ga_rl A (I := 10) (i := 10) rfl (by decide) (by decide)]
        simp only [Option.bind_some]
        by_cases c2 : M (16 + 4 * p) = x
        · rw [if_pos (show nI (M (16 + 4 * p)) = nI x by rw [c2]), if_pos r]
          simp only [r, if_true]
          have hmin := n_minle (a := M 10) (b := M (17 + 4 * p)) (by omega) (by omega) (fun z => f_X6_end_74 (f_X6_end_15 n) h 31 (nI x) (nI p) z)
          rw [hmin]
          unfold f_X6_end_74 f_X6_sumOf f_X6_end_92
          rw [r7]
          simp only [Option.bind_some]
          rw [if_pos r, r1]
          simp only [Option.bind_some]
          rw [ga_rl A (n_17 p) (by omega) (by decide)]
          simp only [Option.bind_some]
          have hd : (decide ((M 14).testBit p = true ∧ M (16 + 4 * p) = x ∧ M 10 < M (17 + 4 * p))) = decide (M 10 < M (17 + 4 * p)) := by simp [c1, c2]
          rw [hd] at hsh
          have hk : (if bI (sh || sp_sh N x p) = 0 then if nI (M (17 + 4 * p)) ≤ nI (min (M (17 + 4 * p)) (M 10)) then f_X6_end_97 (f_X6_end_15 n) h 31 (nI x) (nI p) (nI (min (M (17 + 4 * p)) (M 10))) 31 0 else f_X6_end_97 (f_X6_end_15 n) h 31 (nI x) (nI p) (nI (min (M (17 + 4 * p)) (M 10))) 31 1 else f_X6_end_97 (f_X6_end_15 n) h 31 (nI x) (nI p) (nI (min (M (17 + 4 * p)) (M 10))) 31 1) = f_X6_end_97 (f_X6_end_15 n) h 31 (nI x) (nI p) (nI (min (M (17 + 4 * p)) (M 10))) 31 (bI (sh || sp_sh N x (p + 1))) := by
            rw [hsh]
            by_cases c3 : M 10 < M (17 + 4 * p)
            · rw [if_neg (c := nI (M (17 + 4 * p)) ≤ _) (by rw [nI_leI (by omega) (by omega)]; omega)]
              simp only [c3, decide_true, Bool.or_true, ite_self]
              rfl
            · rw [if_pos (c := nI (M (17 + 4 * p)) ≤ _) (by rw [nI_leI (by omega) (by omega)]; omega)]
              simp only [c3, decide_false, Bool.or_false]
              cases (sh || sp_sh N x p) <;> rfl
          rw [hk]
          obtain ⟨h1, e1, G1, A1, f1⟩ := m_97 (x := x) G A I2 hlt (m := min (M (17 + 4 * p)) (M 10)) (by omega) (sh || sp_sh N x (p + 1)) (f_X6_end_15 n)
          rw [e1]
          have e10 : sp_pay M x p 10 = M 10 - min (M (17 + 4 * p)) (M 10) := by rw [pay_10, if_pos ⟨c1, c2⟩]
          have G1' : go h1 31 6 (mf ns np (pd + nI (N 10 - sp_pays N x (p + 1) 10)) (sh || sp_sh N x (p + 1)) rs ac sa up) := by
            rw [hstep, e10, show N 10 - (M 10 - min (M (17 + 4 * p)) (M 10)) = N 10 - M 10 + min (M (17 + 4 * p)) (M 10) by omega, ← nI_add, ← Int32.add_assoc]
            exact G1
          have A1' : ga h1 33 63 (sp_pays N x (p + 1)) := by
            rw [hstep]
            unfold sp_pay
            rw [if_pos ⟨c1, c2⟩]
            exact A1
          obtain ⟨h4, e4, G4, A4, f4⟩ := ih (p + 1) h1 (by omega) (by omega) G1' A1'
          exact ⟨h4, e4, G4, A4, f1.trans f4⟩
        · rw [if_neg (n_ne (by omega) (by omega) c2), nI_1]
          have hd : (decide ((M 14).testBit p = true ∧ M (16 + 4 * p) = x ∧ M 10 < M (17 + 4 * p))) = false := by simp [c2]
          have es : sp_pay M x p = M := by unfold sp_pay; rw [if_neg (fun z => c2 z.2)]
          refine ih (p + 1) h (by omega) (by omega) ?_ ?_
          · rw [hstep, es, hsh, hd, Bool.or_false]; exact G
          · rw [hstep, es]; exact A
      · rw [if_neg c1, nI_1]
        have hd : (decide ((M 14).testBit p = true ∧ M (16 + 4 * p) = x ∧ M 10 < M (17 + 4 * p))) = false := by simp [c1]
        have es : sp_pay M x p = M := by unfold sp_pay; rw [if_neg (fun z => c1 z.1)]
        refine ih (p + 1) h (by omega) (by omega) ?_ ?_
        · rw [hstep, es, hsh, hd, Bool.or_false]; exact G
        · rw [hstep, es]; exact A
    · rw [if_pos (by show nI 12 ≤ nI p; rw [nI_leI (by decide) (by omega)]; omega)]
      have : p = 12 := by omega
      subst this
      exact ⟨h, rfl, G, A, gfr.refl _ _⟩
theorem m_end {h : gi_H} {N : Nat → Nat} (G : go h 31 6 (mf ns np pd sh rs ac sa up)) (A : ga h 33 63 N) (I : inv N) {x : Nat} (hx : x < 6) : ∃ h', f_X6_end h 31 (nI x) = some h' ∧ go h' 31 6 (mf ns np (pd + nI (N 10 - sp_end N x 10)) (sh || sp_sh (gu N 12 (N 12 ||| 2 ^ x)) x 12) rs ac sa up) ∧ ga h' 33 63 (sp_end N x) ∧ gfr [31, 33] h h' := by
  have i5 := I.2.2.2.2.1
  obtain ⟨r, r0, r1, -⟩ := mf_rd G
  unfold f_X6_end
  rw [r1]
  simp only [Option.bind_some]
  rw [ga_rl A (I := 12) (i := 12) rfl (by decide) (by decide)]
  simp only [Option.bind_some]
  rw [n_set (by omega)]
  obtain ⟨h1, e1, A1, f1⟩ := ga_wl A (I := 12) (i := 12) rfl (by decide) (by decide) (N 12 ||| 2 ^ x)
  rw [e1]
  simp only [Option.bind_some]
  have I2 : inv (gu N 12 (N 12 ||| 2 ^ x)) := inv_ended I (or_lt (n := 6) i5 (Nat.pow_lt_pow_right (by omega) hx))
  have G1 := G.fr f1 (by decide)
  obtain ⟨h2, e2, G2, A2, f2⟩ := m_pays (pd := pd) (sh := sh) (rs := rs) (ac := ac) (sa := sa) (up := up) I2 hx gi_F 0 h1 (by omega) (by decide) (by
    show go h1 31 6 (mf ns np (pd + nI (gu N 12 (N 12 ||| 2 ^ x) 10 - gu N 12 (N 12 ||| 2 ^ x) 10)) (sh || false) rs ac sa up)
    rw [Nat.sub_self, Bool.or_false, show pd + nI 0 = pd from Int32.add_zero pd]
    exact G1) A1
  refine ⟨h2, e2, ?_, A2, (f1.mono (by decide)).trans f2⟩
  rw [gu_ne _ _ (by omega)] at G2
  exact G2
theorem m_overs {N : Nat → Nat} (I : inv N) : ∀ (n p : Nat) (h : gi_H), p ≤ 12 → 12 - p < n → go h 31 6 (mf ns np pd sh rs ac sa up) → ga h 33 63 (sp_overs N p) → ∃ h', f_X6_month_17 n h 31 (nI p) = some (0, h') ∧ ga h' 33 63 (gu (sp_overs N 12) 11 (N 11 + 1)) ∧ gfr [33] h h' := by
  intro n
  induction n with
  | zero => intro p h _ hn; omega
  | succ n ih =>
    intro p h hp hn G A
    unfold f_X6_month_17
    rcases Nat.lt_or_ge p 12 with hlt | hge
    · rw [if_neg (by show ¬ nI 12 ≤ nI p; rw [nI_leI (by decide) (by omega)]; omega)]
      have I2 := inv_overs I p
      have hstep : sp_overs N (p + 1) = sp_over (sp_overs N p) p := rfl
      generalize sp_overs N p = M at *
      obtain ⟨i1, i2, i3, i4, i5, i6, i7, i8, i9⟩ := id I2
      obtain ⟨j1, j2, -, j4⟩ := i8 p hlt
      obtain ⟨r, r0, r1, -⟩ := mf_rd G
      rw [r1]
      simp only [Option.bind_some]
      rw [ga_rl A (I := 14) (i := 14) rfl (by decide) (by decide), ga_rl A (I := 11) (i := 11) rfl (by decide) (by decide), ga_rl A (n_18 p) (by omega) (by decide)]
      simp only [Option.bind_some]
      rw [x6_has (by omega) (by omega)]
      simp only [Option.bind_some]
      rw [n_ifb]
      by_cases c1 : (M 14).testBit p = true
      · rw [if_pos c1]
        have k9 := (i9 p hlt c1).2
        by_cases c2 : M (18 + 4 * p) ≤ M 11
        · rw [if_pos (show nI (M (18 + 4 * p)) = nI (M 11) by rw [show M (18 + 4 * p) = M 11 by omega]), if_pos r]
          obtain ⟨h1, e1, A1, f1⟩ := m_gone G A i7 hlt
          rw [e1]
          simp only [Option.bind_some]
          rw [nI_1]
          have A1' : ga h1 33 63 (sp_overs N (p + 1)) := by
            rw [hstep]
            unfold sp_over
            rw [if_pos ⟨c1, c2⟩]
            exact A1
          obtain ⟨h4, e4, A4, f4⟩ := ih (p + 1) h1 (by omega) (by omega) (G.fr f1 (by decide)) A1'
          exact ⟨h4, e4, A4, f1.trans f4⟩
        · rw [if_neg (n_ne (by omega) (by omega) (by omega)), nI_1]
          refine ih (p + 1) h (by omega) (by omega) G ?_
          rw [hstep]
          unfold sp_over
          rw [if_neg (fun z => c2 z.2)]
          exact A
      · rw [if_neg c1, nI_1]
        refine ih (p + 1) h (by omega) (by omega) G ?_
        rw [hstep]
        unfold sp_over
        rw [if_neg (fun z => c1 z.1)]
        exact A
    · rw [if_pos (by show nI 12 ≤ nI p; rw [nI_leI (by decide) (by omega)]; omega)]
      have : p = 12 := by omega
      subst this
      unfold f_X6_month_69
      obtain ⟨r, r0, r1, -⟩ := mf_rd G
      rw [r1]
      simp only [Option.bind_some]
      rw [ga_rl A (I := 11) (i := 11) rfl (by decide) (by decide)]
      simp only [Option.bind_some]
      rw [overs_ne N (i := 11) (by omega) (by omega) 12, nI_1]
      obtain ⟨h1, e1, A1, f1⟩ := ga_wl A (I := 11) (i := 11) rfl (by decide) (by decide) (N 11 + 1)
      rw [e1]
      exact ⟨h1, rfl, A1, f1⟩
theorem m_month {h : gi_H} {N : Nat → Nat} (G : go h 31 6 (mf ns np pd sh rs ac sa up)) (A : ga h 33 63 N) (I : inv N) : ∃ h', f_X6_month h 31 = some (nI (sp_month N).1, h') ∧ ga h' 33 63 (sp_month N).2 ∧ gfr [33] h h' := by
  have i4 := I.2.2.2.1
  obtain ⟨r, r0, r1, -⟩ := mf_rd G
  unfold f_X6_month
  rw [r1]
  simp only [Option.bind_some]
  rw [ga_rl A (I := 11) (i := 11) rfl (by decide) (by decide)]
  simp only [Option.bind_some]
  unfold sp_month
  by_cases c : 99 ≤ N 11
  · rw [if_pos c, n_ifc 99 99 rfl (by omega) (by decide), if_pos (by omega)]
    exact ⟨h, rfl, A, gfr.refl _ _⟩
  · rw [if_neg c, n_ifc 99 99 rfl (by omega) (by decide), if_neg (by omega)]
    exact m_overs I gi_F 0 h (by omega) (by decide) G A
theorem m_walk {h : gi_H} {N : Nat → Nat} (G : go h 31 6 (mf ns np pd sh rs ac sa up)) (A : ga h 33 63 N) (I : inv N) {x : Nat} (hx : x < 6) : ∃ h', f_X6_life h 31 (nI x) 43 = some (nI (sp_walk N x).1, h') ∧ ga h' 33 63 (sp_walk N x).2 ∧ gfr [33] h h' := by
  have i5 := I.2.2.2.2.1
  have j1 := I.1 x hx
  obtain ⟨r, r0, r1, -⟩ := mf_rd G
  unfold f_X6_life f_X6_life_47
  rw [r1]
  simp only [Option.bind_some]
  rw [ga_rl A (I := 12) (i := 12) rfl (by decide) (by decide), ga_rd A (i := x) (by omega) (by decide)]
  simp only [Option.bind_some]
  rw [x6_has (by omega) (by omega)]
  simp only [Option.bind_some]
  rw [n_ifb, if_neg (show ¬ (43 : Int32) = 120 by decide), if_pos trivial]
  unfold sp_walk
  by_cases c1 : (N 12).testBit x = true
  · rw [if_pos c1, if_pos c1]
    exact ⟨h, rfl, A, gfr.refl _ _⟩
  rw [if_neg c1, if_neg c1, n_if0 (by omega)]
  by_cases c2 : N x = 0
  · rw [if_pos c2, if_pos c2]
    exact ⟨h, rfl, A, gfr.refl _ _⟩
  rw [if_neg c2, if_neg c2, if_pos trivial]
  unfold f_X6_life_71
  have e : nI (N x) + (-1) = nI (N x - 1) := by
    rw [← pk_sub (show 1 ≤ N x by omega)]
    exact (Int32.sub_eq_add_neg _ _).symm
  obtain ⟨h1, e1, A1, f1⟩ := ga_wr A (i := x) (by omega) (by decide) (N x - 1)
  rw [e, e1]
  exact ⟨h1, rfl, A1, f1⟩
theorem m_rum {h : gi_H} {N : Nat → Nat} (G : go h 31 6 (mf ns np pd sh rs ac sa up)) (A : ga h 33 63 N) (I : inv N) {x : Nat} (hx : x < 6) : ∃ h', f_X6_life h 31 (nI x) 45 = some (nI (sp_rum N x).1, h') ∧ ga h' 33 63 (sp_rum N x).2 ∧ gfr [33] h h' := by
  have i5 := I.2.2.2.2.1
  have j1 := I.1 x hx
  obtain ⟨r, r0, r1, -⟩ := mf_rd G
  unfold f_X6_life f_X6_life_47
  rw [r1]
  simp only [Option.bind_some]
  rw [ga_rl A (I := 12) (i := 12) rfl (by decide) (by decide), ga_rd A (i := x) (by omega) (by decide)]
  simp only [Option.bind_some]
  rw [x6_has (by omega) (by omega)]
  simp only [Option.bind_some]
  rw [n_ifb, if_neg (show ¬ (45 : Int32) = 120 by decide), if_neg (show ¬ (45 : Int32) = 43 by decide)]
  unfold sp_rum
  by_cases c1 : (N 12).testBit x = true
  · rw [if_pos c1, if_pos c1]
    exact ⟨h, rfl, A, gfr.refl _ _⟩
  rw [if_neg c1, if_neg c1]
  by_cases c2 : 9 ≤ N x
  · rw [if_pos c2, n_ifc 9 9 rfl (by omega) (by decide), if_pos (by omega)]
    exact ⟨h, rfl, A, gfr.refl _ _⟩
  rw [if_neg c2, n_ifc 9 9 rfl (by omega) (by decide), if_neg (by omega), if_neg (show ¬ (45 : Int32) = 43 by decide)]
  unfold f_X6_life_71
  obtain ⟨h1, e1, A1, f1⟩ := ga_wr A (i := x) (by omega) (by decide) (N x + 1)
  rw [nI_1, e1]
  exact ⟨h1, rfl, A1, f1⟩
theorem m_die {h : gi_H} {N : Nat → Nat} (G : go h 31 6 (mf ns np pd sh rs ac sa up)) (A : ga h 33 63 N) (I : inv N) {x : Nat} (hx : x < 6) (hd : (N 12).testBit x = false) : ∃ h', f_X6_life h 31 (nI x) 120 = some (0, h') ∧ go h' 31 6 (mf ns np (pd + nI (N 10 - sp_end N x 10)) (sh || sp_sh (gu N 12 (N 12 ||| 2 ^ x)) x 12) rs ac sa up) ∧ ga h' 33 63 (sp_end N x) ∧ gfr [31, 33] h h' := by
  have i5 := I.2.2.2.2.1
  obtain ⟨r, r0, r1, -⟩ := mf_rd G
  unfold f_X6_life
  rw [r1]
  simp only [Option.bind_some]
  rw [ga_rl A (I := 12) (i := 12) rfl (by decide) (by decide)]
  simp only [Option.bind_some]
  rw [x6_has (by omega) (by omega)]
  simp only [Option.bind_some]
  rw [n_ifb, if_neg (by rw [hd]; decide), if_pos trivial, if_pos r]
  obtain ⟨h1, e1, G1, A1, f1⟩ := m_end G A I hx
  rw [e1]
  exact ⟨h1, rfl, G1, A1, f1⟩
theorem m_dead {h : gi_H} {N : Nat → Nat} (G : go h 31 6 (mf ns np pd sh rs ac sa up)) (A : ga h 33 63 N) (I : inv N) {x : Nat} (hx : x < 6) (hd : (N 12).testBit x = true) : f_X6_life h 31 (nI x) 120 = some (1, h) := by
  have i5 := I.2.2.2.2.1
  obtain ⟨r, r0, r1, -⟩ := mf_rd G
  unfold f_X6_life
  rw [r1]
  simp only [Option.bind_some]
  rw [ga_rl A (I := 12) (i := 12) rfl (by decide) (by decide)]
  simp only [Option.bind_some]
  rw [x6_has (by omega) (by omega)]
  simp only [Option.bind_some]
  rw [n_ifb, if_pos hd]
theorem m_asNow2 {N : Nat → Nat} : ∀ (n j : Nat) (h : gi_H) (g : Nat → Nat), j ≤ 63 → 63 - j < n → go h 31 6 (mf ns np pd sh rs ac sa up) → ga h 32 63 N → ga h 33 63 g → (∀ i, i < j → g i = N i) → ∃ h', f_X6_asNow_2 n h 31 (nI j) = some h' ∧ ga h' 33 63 N ∧ gfr [33] h h' := by
  intro n
  induction n with
  | zero => intro j h g _ hn; omega
  | succ n ih =>
    intro j h g hj hn G B A e
    unfold f_X6_asNow_2
    rcases Nat.lt_or_ge j 63 with hlt | hge
    · obtain ⟨r, r0, r1, -⟩ := mf_rd G
      rw [if_neg (by show ¬ nI 63 ≤ nI j; rw [nI_leI (by decide) (by omega)]; omega), r1, r0]
      simp only [Option.bind_some]
      rw [ga_rd B hlt (by decide)]
      simp only [Option.bind_some]
      obtain ⟨h1, e1, A1, f1⟩ := ga_wr A hlt (by decide) (N j)
      rw [e1]
      simp only [Option.bind_some]
      rw [nI_1]
      obtain ⟨h2, e2, A2, f2⟩ := ih (j + 1) h1 _ (by omega) (by omega) (G.fr f1 (by decide)) (B.fr f1 (by decide)) A1 (fun i hi => by
        by_cases q : i = j
        · rw [q, gu_self]
        · rw [gu_ne _ _ q]; exact e i (by omega))
      exact ⟨h2, e2, A2, f1.trans f2⟩
    · rw [if_pos (by show nI 63 ≤ nI j; rw [nI_leI (by decide) (by omega)]; omega)]
      exact ⟨h, rfl, A.cong (fun i hi => e i (by omega)), gfr.refl _ _⟩
theorem m_asNow {h : gi_H} {N g : Nat → Nat} (G : go h 31 6 (mf ns np pd sh rs ac sa up)) (B : ga h 32 63 N) (A : ga h 33 63 g) : ∃ h', f_X6_asNow h 31 = some h' ∧ ga h' 33 63 N ∧ gfr [33] h h' :=
  m_asNow2 gi_F 0 h g (by omega) (by decide) G B A (fun i hi => by omega)
end MOD2
