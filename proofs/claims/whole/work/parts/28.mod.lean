/-! THE REFERENCE'S MONTHS: its acts do what the numbers say -/
theorem n_15 (p : Nat) : (15 : Int32) + 4 * nI p = nI (15 + 4 * p) := by show nI 15 + nI 4 * nI p = _; rw [pk_mul, nI_add]
theorem n_16 (p : Nat) : (16 : Int32) + 4 * nI p = nI (16 + 4 * p) := by show nI 16 + nI 4 * nI p = _; rw [pk_mul, nI_add]
theorem n_17 (p : Nat) : (17 : Int32) + 4 * nI p = nI (17 + 4 * p) := by show nI 17 + nI 4 * nI p = _; rw [pk_mul, nI_add]
theorem n_18 (p : Nat) : (18 : Int32) + 4 * nI p = nI (18 + 4 * p) := by show nI 18 + nI 4 * nI p = _; rw [pk_mul, nI_add]
theorem n_6a (p : Nat) : (6 : Int32) + nI p = nI (6 + p) := by show nI 6 + nI p = _; rw [nI_add]
theorem ga_rl {h : gi_H} {a n : Nat} {g : Nat → Nat} (H : ga h a n g) {I : Int32} {i : Nat} (e : I = nI i) (hi : i < n) (hn : n < 2 ^ 31) : gi_ai h a 0 I = some (nI (g i)) := by rw [e]; exact ga_rd H hi hn
theorem ga_wl {h : gi_H} {a n : Nat} {g : Nat → Nat} (H : ga h a n g) {I : Int32} {i : Nat} (e : I = nI i) (hi : i < n) (hn : n < 2 ^ 31) (v : Nat) : ∃ h', gi_pi h a 0 I (nI v) = some h' ∧ ga h' a n (gu g i v) ∧ gfr [a] h h' := by rw [e]; exact ga_wr H hi hn v
theorem x6_has {a p : Nat} (ha : a < 2 ^ 31) (hp : p < 32) : f_X6_has (nI a) (nI p) = some (nI (bN a p)) := by
  unfold f_X6_has
  rw [n_bit ha hp]
  unfold bN
  cases a.testBit p <;> rfl
def bI (b : Bool) : Int32 := if b then 1 else 0
/-- the reference's fields: sights, signs, paid, isShort, reason, acts, shortAt, bestUp -/
def mf (ns np : Nat) (pd : Int32) (sh : Bool) (rs ac sa : Int32) (up : Int64) : List Value := [.ref 32, .ref 33, .int (nI ns), .ref 34, .int (nI np), .ref 35, .int pd, .int (bI sh), .int rs, .int ac, .int sa, .long up, .ref 36, .ref 37, .ref 38, .ref 39]
section MOD
variable {h : gi_H} {ns np : Nat} {pd : Int32} {sh : Bool} {rs ac sa : Int32} {up : Int64} {N : Nat → Nat}
theorem mf_rd (G : go h 31 6 (mf ns np pd sh rs ac sa up)) : gi_is h 31 6 = true ∧ gi_fR h 31 6 0 = some 32 ∧ gi_fR h 31 6 1 = some 33 ∧ gi_fI h 31 6 2 = some (nI ns) ∧ gi_fR h 31 6 3 = some 34 ∧ gi_fI h 31 6 4 = some (nI np) ∧ gi_fR h 31 6 5 = some 35 ∧ gi_fI h 31 6 6 = some pd ∧ gi_fI h 31 6 7 = some (bI sh) ∧ gi_fI h 31 6 8 = some rs ∧ gi_fI h 31 6 9 = some ac ∧ gi_fI h 31 6 10 = some sa ∧ gi_fJ h 31 6 11 = some up ∧ gi_fR h 31 6 12 = some 36 ∧ gi_fR h 31 6 13 = some 37 ∧ gi_fR h 31 6 14 = some 38 ∧ gi_fR h 31 6 15 = some 39 :=
  ⟨go_is G, go_fR G rfl, go_fR G rfl, go_fI G rfl, go_fR G rfl, go_fI G rfl, go_fR G rfl, go_fI G rfl, go_fI G rfl, go_fI G rfl, go_fI G rfl, go_fI G rfl, go_fJ G rfl, go_fR G rfl, go_fR G rfl, go_fR G rfl, go_fR G rfl⟩
theorem mf_w2 (G : go h 31 6 (mf ns np pd sh rs ac sa up)) (v : Nat) : ∃ h', gi_fp h 31 6 2 (.int (nI v)) = some h' ∧ go h' 31 6 (mf v np pd sh rs ac sa up) ∧ gfr [31] h h' := go_fp G _ (by simp [mf])
theorem mf_w4 (G : go h 31 6 (mf ns np pd sh rs ac sa up)) (v : Nat) : ∃ h', gi_fp h 31 6 4 (.int (nI v)) = some h' ∧ go h' 31 6 (mf ns v pd sh rs ac sa up) ∧ gfr [31] h h' := go_fp G _ (by simp [mf])
theorem mf_w6 (G : go h 31 6 (mf ns np pd sh rs ac sa up)) (v : Int32) : ∃ h', gi_fp h 31 6 6 (.int v) = some h' ∧ go h' 31 6 (mf ns np v sh rs ac sa up) ∧ gfr [31] h h' := go_fp G _ (by simp [mf])
theorem mf_w7 (G : go h 31 6 (mf ns np pd sh rs ac sa up)) (v : Bool) : ∃ h', gi_fp h 31 6 7 (.int (bI v)) = some h' ∧ go h' 31 6 (mf ns np pd v rs ac sa up) ∧ gfr [31] h h' := go_fp G _ (by simp [mf])
theorem mf_w8 (G : go h 31 6 (mf ns np pd sh rs ac sa up)) (v : Int32) : ∃ h', gi_fp h 31 6 8 (.int v) = some h' ∧ go h' 31 6 (mf ns np pd sh v ac sa up) ∧ gfr [31] h h' := go_fp G _ (by simp [mf])
theorem mf_w9 (G : go h 31 6 (mf ns np pd sh rs ac sa up)) (v : Int32) : ∃ h', gi_fp h 31 6 9 (.int v) = some h' ∧ go h' 31 6 (mf ns np pd sh rs v sa up) ∧ gfr [31] h h' := go_fp G _ (by simp [mf])
theorem mf_w10 (G : go h 31 6 (mf ns np pd sh rs ac sa up)) (v : Int32) : ∃ h', gi_fp h 31 6 10 (.int v) = some h' ∧ go h' 31 6 (mf ns np pd sh rs ac v up) ∧ gfr [31] h h' := go_fp G _ (by simp [mf])
theorem mf_w11 (G : go h 31 6 (mf ns np pd sh rs ac sa up)) (v : Int64) : ∃ h', gi_fp h 31 6 11 (.long v) = some h' ∧ go h' 31 6 (mf ns np pd sh rs ac sa v) ∧ gfr [31] h h' := go_fp G _ (by simp [mf])
theorem go.fr {l : List Nat} {h h' : gi_H} {a c : Nat} {fs : List Value} (G : go h a c fs) (f : gfr l h h') (e : a ∉ l) : go h' a c fs := G.keep (f.2 a e)
theorem ga.fr {l : List Nat} {h h' : gi_H} {a n : Nat} {g : Nat → Nat} (G : ga h a n g) (f : gfr l h h') (e : a ∉ l) : ga h' a n g := G.keep (f.2 a e)
theorem m_gone (G : go h 31 6 (mf ns np pd sh rs ac sa up)) (A : ga h 33 63 N) (i6 : N 14 < 4096) {p : Nat} (hp : p < 12) : ∃ h', f_X6_gone h 31 (nI p) = some h' ∧ ga h' 33 63 (sp_gone N p) ∧ gfr [33] h h' := by
  obtain ⟨ri, r0, r1, -⟩ := mf_rd G
  unfold f_X6_gone
  have hc14 := clr_le (N 14) p
  rw [r1]
  simp only [Option.bind_some]
  rw [ga_rl A (I := 14) (i := 14) rfl (by decide) (by decide)]
  simp only [Option.bind_some]
  rw [n_clr (by omega)]
  obtain ⟨h1, e1, A1, f1⟩ := ga_wl A (I := 14) (i := 14) rfl (by decide) (by decide) (clr (N 14) p)
  rw [e1]
  simp only [Option.bind_some]
  obtain ⟨-, -, r1, -⟩ := mf_rd (G.fr f1 (by decide))
  rw [r1]
  simp only [Option.bind_some]
  rw [ga_rl A1 (I := 14) (i := 14) rfl (by decide) (by decide), gu_self]
  simp only [Option.bind_some]
  unfold sp_gone
  rw [n_if0 (by omega)]
  by_cases hc : clr (N 14) p = 0
  · rw [if_pos hc, if_pos hc]
    unfold f_X6_gone_42
    obtain ⟨h2, e2, A2, f2⟩ := ga_wl A1 (I := 13) (i := 13) rfl (by decide) (by decide) 0
    rw [show (0 : Int32) = nI 0 from rfl, e2]
    exact ⟨h2, rfl, A2, f1.trans f2⟩
  · rw [if_neg hc, if_neg hc, ga_rl A1 (I := 13) (i := 13) rfl (by decide) (by decide)]
    simp only [Option.bind_some]
    unfold f_X6_gone_42
    rw [gu_ne _ _ (by omega)]
    obtain ⟨h2, e2, A2, f2⟩ := ga_wl A1 (I := 13) (i := 13) rfl (by decide) (by decide) (N 13)
    rw [e2]
    refine ⟨h2, rfl, A2.cong (fun i hi => ?_), f1.trans f2⟩
    by_cases q : i = 13
    · subst q; rw [gu_self, gu_ne _ _ (by omega)]
    · rw [gu_ne _ _ q]
theorem n_minle {a b : Nat} (ha : a < 2 ^ 31) (hb : b < 2 ^ 31) {α : Type} (f : Int32 → α) : (if nI a ≤ nI b then f (nI a) else f (nI b)) = f (nI (min b a)) := by
  by_cases c : a ≤ b
  · rw [if_pos ((nI_leI ha hb).mpr c), Nat.min_eq_right c]
  · rw [if_neg (fun z => c ((nI_leI ha hb).mp z)), Nat.min_eq_left (by omega)]
theorem m_gets (G : go h 31 6 (mf ns np pd sh rs ac sa up)) (A : ga h 33 63 N) {b m : Nat} (hb : b < 4) (hm : m ≤ 10000) (hc : N (6 + b) ≤ 999) : ∃ h', f_X6_gets h 31 (nI b) (nI m) = some h' ∧ ga h' 33 63 (sp_gets N b m) ∧ gfr [33] h h' := by
  obtain ⟨ri, r0, r1, -⟩ := mf_rd G
  unfold f_X6_gets f_X6_gets_42
  rw [r1]
  simp only [Option.bind_some]
  rw [ga_rl A (n_6a b) (by omega) (by decide)]
  simp only [Option.bind_some]
  rw [nI_add, show (999 : Int32) = nI 999 from rfl]
  obtain ⟨h2, e2, A2, f2⟩ := ga_wl A (n_6a b) (by omega) (by decide) (min 999 (N (6 + b) + m))
  have := n_minle (a := N (6 + b) + m) (b := 999) (by omega) (by decide) (fun z => (gi_pi h 33 0 (6 + nI b) z).bind fun h1 => some h1)
  rw [this, e2]
  exact ⟨h2, rfl, A2, f2⟩
theorem m_buy (G : go h 31 6 (mf ns np pd sh rs ac sa up)) (A : ga h 33 63 N) (I : inv N) {b x c t : Nat} (hb : b < 4) (hx : x < 6) (hc : c ≤ 9) (ht1 : 1 ≤ t) (ht : t ≤ 9) : ∃ h', f_X6_buy h 31 (nI b) (nI x) (nI c) (nI t) = some (nI (sp_buy N b x c t).1, h') ∧ ga h' 33 63 (sp_buy N b x c t).2 ∧ gfr [33] h h' := by
  obtain ⟨i1, i2, i3, i4, i5, i6, i7, i8, i9⟩ := I
  obtain ⟨ri, r0, r1, -⟩ := mf_rd G
  have hp : prc (10 * c) (N x) t ≤ 10 * c := prc_le
  have j1 := i1 x hx
  have j2 := i2 b hb
  have kN : ∀ i, i < 63 → gi_ai h 33 0 (nI i) = some (nI (N i)) := fun i hi => ga_rd A hi (by decide)
  unfold f_X6_buy
  rw [r1]
  simp only [Option.bind_some]
  rw [ga_rl A (I := 12) (i := 12) rfl (by decide) (by decide), ga_rl A (I := 13) (i := 13) rfl (by decide) (by decide), ga_rl A (I := 11) (i := 11) rfl (by decide) (by decide), kN x (by omega), ga_rl A (n_6a b) (by omega) (by decide)]
  simp only [Option.bind_some]
  rw [x6_has (by omega) (by omega)]
  simp only [Option.bind_some]
  rw [n_ifb]
  unfold sp_buy
  by_cases c1 : (N 12).testBit x = true
  · rw [if_pos c1, if_pos c1]
    exact ⟨h, rfl, A, gfr.refl _ _⟩
  rw [if_neg c1, if_neg c1]
  by_cases c2 : N 13 = 12
  · rw [if_pos c2, if_pos (by rw [c2]; rfl)]
    exact ⟨h, rfl, A, gfr.refl _ _⟩
  rw [if_neg c2, if_neg (show ¬ nI (N 13) = 12 from n_ne (b := 12) (by omega) (by decide) c2), n_10m, x6_price_eq (by omega) (by omega) (by omega)]
  simp only [Option.bind_some]
  generalize prc (10 * c) (N x) t = q at hp ⊢
  by_cases c3 : N (6 + b) < q
  · rw [if_pos c3, if_neg (by rw [nI_leI (by omega) (by omega)]; omega)]
    exact ⟨h, rfl, A, gfr.refl _ _⟩
  have e9 : nI (N 11) + nI t - 1 = nI (N 11 + t - 1) := by
    rw [nI_add]
    exact pk_sub (a := N 11 + t) (b := 1) (by omega)
  rw [if_neg c3, if_pos (by rw [nI_leI (by omega) (by omega)]; omega), e9]
  by_cases c4 : 99 < N 11 + t - 1
  · rw [if_pos c4, if_neg (by show ¬ nI (N 11 + t - 1) ≤ nI 99; rw [nI_leI (by omega) (by decide)]; omega)]
    exact ⟨h, rfl, A, gfr.refl _ _⟩
  rw [if_neg c4, if_pos (by show nI (N 11 + t - 1) ≤ nI 99; rw [nI_leI (by omega) (by decide)]; omega)]
  obtain ⟨h1, e1, A1, f1⟩ := ga_wl A (n_15 (N 13)) (by omega) (by decide) b
  rw [e1]
  simp only [Option.bind_some]
  rw [(mf_rd (G.fr f1 (by decide))).2.2.1]
  simp only [Option.bind_some]
  have x1 : (15 : Int32) + 4 * nI (N 13) + 1 = nI (16 + 4 * N 13) := by rw [n_15, nI_1]; congr 1; omega
  have x2 : (15 : Int32) + 4 * nI (N 13) + 2 = nI (17 + 4 * N 13) := by rw [n_15]; show nI _ + nI 2 = _; rw [nI_add]; congr 1; omega
  have x3 : (15 : Int32) + 4 * nI (N 13) + 3 = nI (18 + 4 * N 13) := by rw [n_15]; show nI _ + nI 3 = _; rw [nI_add]; congr 1; omega
  obtain ⟨h2, e2, A2, f2⟩ := ga_wl A1 x1 (by omega) (by decide) x
  rw [e2]
  simp only [Option.bind_some]
  have F2 := f1.trans f2
  rw [(mf_rd (G.fr F2 (by decide))).2.2.1]
  simp only [Option.bind_some]
  obtain ⟨h3, e3, A3, f3⟩ := ga_wl A2 x2 (by omega) (by decide) (10 * c)
  rw [e3]
  simp only [Option.bind_some]
  have F3 := F2.trans f3
  rw [(mf_rd (G.fr F3 (by decide))).2.2.1]
  simp only [Option.bind_some]
  rw [ga_rl A3 (I := 11) (i := 11) rfl (by decide) (by decide), gu_ne _ _ (by omega), gu_ne _ _ (by omega), gu_ne _ _ (by omega)]
  simp only [Option.bind_some]
  rw [e9]
  obtain ⟨h4, e4, A4, f4⟩ := ga_wl A3 x3 (by omega) (by decide) (N 11 + t - 1)
  rw [e4]
  simp only [Option.bind_some]
  have F4 := F3.trans f4
  rw [(mf_rd (G.fr F4 (by decide))).2.2.1]
  simp only [Option.bind_some]
  rw [ga_rl A4 (I := 14) (i := 14) rfl (by decide) (by decide), gu_ne _ _ (by omega), gu_ne _ _ (by omega), gu_ne _ _ (by omega), gu_ne _ _ (by omega)]
  rw [ga_rl A4 (I := 13) (i := 13) rfl (by decide) (by decide), gu_ne _ _ (by omega), gu_ne _ _ (by omega), gu_ne _ _ (by omega), gu_ne _ _ (by omega)]
  simp only [Option.bind_some]
  rw [n_set (by omega)]
  obtain ⟨h5, e5, A5, f5⟩ := ga_wl A4 (I := 14) (i := 14) rfl (by decide) (by decide) (N 14 ||| 2 ^ N 13)
  rw [e5]
  simp only [Option.bind_some]
  have F5 := F4.trans f5
  rw [(mf_rd (G.fr F5 (by decide))).2.2.1]
  simp only [Option.bind_some]
  rw [ga_rl A5 (I := 13) (i := 13) rfl (by decide) (by decide), gu_ne _ _ (by omega), gu_ne _ _ (by omega), gu_ne _ _ (by omega), gu_ne _ _ (by omega), gu_ne _ _ (by omega)]
  simp only [Option.bind_some]
  rw [nI_1]
  obtain ⟨h6, e6, A6, f6⟩ := ga_wl A5 (I := 13) (i := 13) rfl (by decide) (by decide) (N 13 + 1)
  rw [e6]
  simp only [Option.bind_some]
  have F6 := F5.trans f6
  rw [(mf_rd (G.fr F6 (by decide))).2.2.1]
  simp only [Option.bind_some]
  rw [ga_rl A6 (n_6a b) (by omega) (by decide), gu_ne _ _ (by omega), gu_ne _ _ (by omega), gu_ne _ _ (by omega), gu_ne _ _ (by omega), gu_ne _ _ (by omega), gu_ne _ _ (by omega)]
  simp only [Option.bind_some]
  rw [pk_sub (by omega)]
  obtain ⟨h7, e7, A7, f7⟩ := ga_wl A6 (n_6a b) (by omega) (by decide) (N (6 + b) - q)
  rw [e7]
  simp only [Option.bind_some]
  have F7 := F6.trans f7
  rw [(mf_rd (G.fr F7 (by decide))).2.2.1]
  simp only [Option.bind_some]
  rw [ga_rl A7 (I := 10) (i := 10) rfl (by decide) (by decide), gu_ne _ _ (by omega), gu_ne _ _ (by omega), gu_ne _ _ (by omega), gu_ne _ _ (by omega), gu_ne _ _ (by omega), gu_ne _ _ (by omega), gu_ne _ _ (by omega)]
  simp only [Option.bind_some]
  unfold f_X6_buy_231
  rw [nI_add, show (9999 : Int32) = nI 9999 from rfl]
  obtain ⟨h8, e8, A8, f8⟩ := ga_wl A7 (I := 10) (i := 10) rfl (by decide) (by decide) (min 9999 (N 10 + q))
  have := n_minle (a := N 10 + q) (b := 9999) (by omega) (by decide) (fun z => (gi_pi h7 33 0 10 z).bind fun h1 => some ((0 : Int32), h1))
  rw [this, e8]
  refine ⟨h8, rfl, A8.cong (fun i hi => ?_), F7.trans f8⟩
  unfold sp_enter
  simp only [gu_ne _ _ (show (13 : Nat) ≠ 10 by omega), gu_ne _ _ (show (14 : Nat) ≠ 10 by omega), gu_ne _ _ (show (13 : Nat) ≠ 6 + b by omega), gu_ne _ _ (show (14 : Nat) ≠ 6 + b by omega)]
  unfold gu
  by_cases q10 : i = 10
  · subst q10
    rw [if_pos rfl, if_neg (by omega), if_neg (by omega), if_neg (by omega), if_neg (by omega), if_neg (by omega), if_neg (by omega), if_pos rfl]
  · rw [if_neg q10, if_neg q10]
    by_cases q6 : i = 6 + b
    · rw [if_pos q6, if_neg (by omega), if_neg (by omega), if_neg (by omega), if_neg (by omega), if_neg (by omega), if_neg (by omega), if_pos q6]
    · rw [if_neg q6, if_neg q6]
theorem m_passes (G : go h 31 6 (mf ns np pd sh rs ac sa up)) (A : ga h 33 63 N) (I : inv N) {b p q : Nat} (hb : b < 4) (hp : p < 12) (hq : q < 4) : ∃ h', f_X6_passes h 31 (nI b) (nI p) (nI q) = some (nI (sp_pass N b p q).1, h') ∧ ga h' 33 63 (sp_pass N b p q).2 ∧ gfr [33] h h' := by
  obtain ⟨i1, i2, i3, i4, i5, i6, i7, i8, i9⟩ := I
  obtain ⟨ri, r0, r1, -⟩ := mf_rd G
  have j1 := i2 q hq
  have j2 := i2 b hb
  have j3 := (i8 p hp).1
  unfold f_X6_passes f_X6_passes_40 f_X6_holder
  rw [r1]
  simp only [Option.bind_some]
  rw [ga_rl A (n_6a q) (by omega) (by decide), ga_rl A (I := 14) (i := 14) rfl (by decide) (by decide), ga_rl A (n_15 p) (by omega) (by decide), if_pos ri]
  simp only [Option.bind_some]
  rw [x6_has (by omega) (by omega)]
  simp only [Option.bind_some]
  rw [n_ifb]
  unfold sp_pass
  by_cases c1 : N (6 + q) < 1
  · rw [if_pos c1, if_neg (by show ¬ nI 1 ≤ nI _; rw [nI_leI (by decide) (by omega)]; omega)]
    exact ⟨h, rfl, A, gfr.refl _ _⟩
  rw [if_neg c1, if_pos (by show nI 1 ≤ nI _; rw [nI_leI (by decide) (by omega)]; omega)]
  by_cases c2 : (N 14).testBit p = true
  · rw [if_pos c2]
    by_cases c3 : N (15 + 4 * p) = b
    · rw [if_pos (by rw [c3]), if_neg (c := (N 14).testBit p = false ∨ N (15 + 4 * p) ≠ b) (by rw [c2, c3]; simp)]
      by_cases c4 : b = q
      · rw [if_pos c4, if_pos (by rw [c4])]
        exact ⟨h, rfl, A, gfr.refl _ _⟩
      · rw [if_neg c4, if_neg (n_ne (by omega) (by omega) c4)]
        unfold f_X6_passes_54
        rw [if_pos rfl, r1]
        simp only [Option.bind_some]
        obtain ⟨h1, e1, A1, f1⟩ := ga_wl A (n_15 p) (by omega) (by decide) q
        rw [e1]
        simp only [Option.bind_some]
        rw [(mf_rd (G.fr f1 (by decide))).2.2.1]
        simp only [Option.bind_some]
        rw [ga_rl A1 (n_6a q) (by omega) (by decide), gu_ne _ _ (by omega)]
        simp only [Option.bind_some]
        rw [show nI (N (6 + q)) - 1 = nI (N (6 + q) - 1) from pk_sub (b := 1) (by omega)]
        obtain ⟨h2, e2, A2, f2⟩ := ga_wl A1 (n_6a q) (by omega) (by decide) (N (6 + q) - 1)
        rw [e2]
        simp only [Option.bind_some]
        have G2 := G.fr (f1.trans f2) (by decide)
        rw [if_pos (mf_rd G2).1]
        obtain ⟨h3, e3, A3, f3⟩ := m_gets G2 A2 (b := b) (m := 1) hb (by omega) (by rw [gu_ne _ _ (by omega), gu_ne _ _ (by omega)]; exact j2)
        rw [show (1 : Int32) = nI 1 from rfl, e3]
        refine ⟨h3, rfl, A3.cong (fun i hi => ?_), (f1.trans f2).trans f3⟩
        simp only [sp_gets]
        rw [gu_ne _ _ (show 6 + b ≠ 6 + q by omega), gu_ne _ _ (show 6 + b ≠ 15 + 4 * p by omega), gu_ne _ _ (show 6 + b ≠ 6 + q by omega)]
        unfold gu
        by_cases q1 : i = 6 + b
        · rw [if_pos q1, if_neg (by omega), if_pos q1]
        · rw [if_neg q1]
          by_cases q2 : i = 6 + q
          · rw [if_pos q2, if_neg (by omega), if_neg q1, if_pos q2]
          · rw [if_neg q2, if_neg q1, if_neg q2]
    · rw [if_neg (n_ne (by omega) (by omega) c3), if_pos (Or.inr c3)]
      exact ⟨h, rfl, A, gfr.refl _ _⟩
  · rw [if_neg c2, if_pos (Or.inl (by simpa using c2))]
    exact ⟨h, rfl, A, gfr.refl _ _⟩
end MOD
