/-! PASSES, and how many twos tell all odds apart -/
theorem parts_eq : (f_X5_parts 1).isSome = true ∧ f_X5_parts 1 = f_X6_parts 31 := by decide +kernel
theorem k_parts : RR (f_X5_parts 1) (f_X6_parts 31) := by
  obtain ⟨h1, h2⟩ := parts_eq
  obtain ⟨v, hv⟩ := Option.isSome_iff_exists.mp h1
  exact ⟨v, hv, by rw [← h2]; exact hv⟩
theorem n_dec {j : Nat} (hj : 0 < j) : nI j + (-1) = nI (j - 1) := by
  rw [← pk_sub (show 1 ≤ j by omega)]
  exact (Int32.sub_eq_add_neg _ _).symm
def dg (w D i : Nat) : Nat := w / 10 ^ (D - 1 - i) % 10
theorem n_d10 {a : Nat} (ha : a < 2 ^ 31) : nI a / 10 = nI (a / 10) := pk_div (a := a) (d := 10) ha (by decide) (by decide)
theorem n_m10 {a : Nat} (ha : a < 2 ^ 31) : nI a - nI a / 10 * 10 = nI (a % 10) := pk_rem (a := a) (d := 10) ha (by decide) (by decide)
theorem dig_loop {i : Nat} (hi : i < 100) : ∀ (n j r : Nat), i ≤ j → j < 100 → j - i < n → r < 2 ^ 31 → f_X5_digitOf_7 n (nI i) (nI r) (nI j) = some (nI (r / 10 ^ (j - i) % 10)) := by
  intro n
  induction n with
  | zero => intro j r _ _ h; omega
  | succ n ih =>
    intro j r hj hj2 hn hr
    unfold f_X5_digitOf_7 f_X5_digitOf_24
    rw [n_ifle (nI i) i rfl (by omega) (by omega)]
    by_cases c : j ≤ i
    · rw [if_pos c, n_m10 hr, show j - i = 0 by omega, Nat.pow_zero, Nat.div_one]
    · rw [if_neg c, n_d10 hr, n_dec (by omega), ih (j - 1) (r / 10) (by omega) (by omega) (by omega) (by omega), Nat.div_div_eq_div_mul, show 10 * 10 ^ (j - 1 - i) = 10 ^ (j - i) by rw [← Nat.pow_succ']; congr 1; omega]
theorem dig_eq {w D i : Nat} (hw : w < 2 ^ 31) (hi : i < D) (hD : D < 100) : f_X5_digitOf (nI w) (nI D) (nI i) = some (nI (dg w D i)) := by
  unfold f_X5_digitOf
  rw [show nI D - 1 = nI (D - 1) from pk_sub (b := 1) (by omega)]
  exact dig_loop (by omega) gi_F (D - 1) w (by omega) (by omega) (by unfold gi_F; omega) hw
theorem dg_lt (w D i : Nat) : dg w D i < 10 := Nat.mod_lt _ (by omega)
def goodW (w : Nat) : Prop := dg w 4 0 ≤ 6 ∧ dg w 4 1 ≤ 6 ∧ dg w 4 2 ≤ 6 ∧ dg w 4 3 ≤ 6
theorem dg_4 (w : Nat) : dg w 4 0 = w / 1000 % 10 ∧ dg w 4 1 = w / 100 % 10 ∧ dg w 4 2 = w / 10 % 10 ∧ dg w 4 3 = w % 10 := ⟨rfl, rfl, rfl, by unfold dg; rw [show 4 - 1 - 3 = 0 from rfl, Nat.pow_zero, Nat.div_one]⟩
theorem w_loop {w : Nat} (hw : w < 10000) : ∀ (n b : Nat), b ≤ 4 → 4 - b < n → (∀ i, i < b → dg w 4 i ≤ 6) → ((goodW w → f_X5_areWants_15 n (nI w) (nI b) = some 1) ∧ (¬ goodW w → f_X5_areWants_15 n (nI w) (nI b) = some 0)) := by
  intro n
  induction n with
  | zero => intro b _ h; omega
  | succ n ih =>
    intro b hb hn hd
    unfold f_X5_areWants_15
    rw [n_ifge 4 4 rfl (by omega) (by decide)]
    rcases Nat.lt_or_ge b 4 with hlt | hge
    · have hl := dg_lt w 4 b
      rw [if_neg (by omega), show f_X5_digitOf (nI w) 4 (nI b) = some (nI (dg w 4 b)) from dig_eq (D := 4) (by omega) hlt (by decide), Option.bind_some, n_ifle 6 6 rfl (by omega) (by decide), nI_1]
      by_cases c : dg w 4 b ≤ 6
      · rw [if_pos c]
        exact ih (b + 1) (by omega) (by omega) (fun i hi => by
          by_cases e : i = b
          · rw [e]; exact c
          · exact hd i (by omega))
      · rw [if_neg c]
        refine ⟨fun g => absurd g ?_, fun _ => rfl⟩
        intro ⟨g0, g1, g2, g3⟩
        rcases (show b = 0 ∨ b = 1 ∨ b = 2 ∨ b = 3 by omega) with rfl | rfl | rfl | rfl <;> omega
    · rw [if_pos (by omega)]
      exact ⟨fun _ => rfl, fun g => absurd ⟨hd 0 (by omega), hd 1 (by omega), hd 2 (by omega), hd 3 (by omega)⟩ g⟩
theorem wants_eq {w : Nat} (hw : w < 10000) : (goodW w → f_X5_areWants (nI w) = some 1) ∧ (¬ goodW w → f_X5_areWants (nI w) = some 0) := by
  obtain ⟨d0, d1, d2, d3⟩ := dg_4 w
  unfold f_X5_areWants
  by_cases c : w ≤ 6666
  · rw [in_nI 0 6666 rfl rfl (by decide) (Nat.zero_le w) c, Option.bind_some, if_neg i1_ne0]
    exact w_loop hw gi_F 0 (by omega) (by decide) (fun i hi => by omega)
  · rw [w_out (l := 0) (u := 6666) (Or.inr (by show nI 6666 < nI w; rw [nI_ltI (by decide) (by omega)]; omega)), Option.bind_some, if_pos rfl]
    refine ⟨fun g => absurd g ?_, fun _ => rfl⟩
    intro ⟨g0, g1, g2, g3⟩
    omega
/-- the only buyer of four who wants it -/
def oo (a b c d : Bool) : Option Nat := match a, b, c, d with
  | true, false, false, false => some 0
  | false, true, false, false => some 1
  | false, false, true, false => some 2
  | false, false, false, true => some 3
  | _, _, _, _ => none
def ooI : Option Nat → Int32
  | some b => nI b
  | none => -6
theorem oo_lt : ∀ a b c d q, oo a b c d = some q → q < 4 := by
  intro a b c d q
  cases a <;> cases b <;> cases c <;> cases d <;> intro h <;> simp [oo] at h <;> omega
theorem only_eq {w k : Nat} (hw : w < 10000) (hk : k < 10) : f_X5_onlyOneWho (nI w) (nI k) = some (ooI (oo (decide (dg w 4 0 = k)) (decide (dg w 4 1 = k)) (decide (dg w 4 2 = k)) (decide (dg w 4 3 = k)))) := by
  have st : ∀ n b (f : Int32), b < 4 → f_X5_onlyOneWho_5 (n + 1) (nI w) (nI k) f (nI b) = if dg w 4 b = k then (if f = -6 then f_X5_onlyOneWho_5 n (nI w) (nI k) (nI b) (nI (b + 1)) else some (-6)) else f_X5_onlyOneWho_5 n (nI w) (nI k) f (nI (b + 1)) := by
    intro n b f hb
    have hl := dg_lt w 4 b
    conv => lhs; unfold f_X5_onlyOneWho_5
    rw [n_ifge 4 4 rfl (by omega) (by decide), if_neg (by omega), show f_X5_digitOf (nI w) 4 (nI b) = some (nI (dg w 4 b)) from dig_eq (D := 4) (by omega) hb (by decide), Option.bind_some, n_ifc (nI k) k rfl (by omega) (by omega), nI_1]
  have fin : ∀ n (f : Int32), f_X5_onlyOneWho_5 (n + 1) (nI w) (nI k) f (nI 4) = some f := by
    intro n f
    unfold f_X5_onlyOneWho_5
    rw [n_ifge 4 4 rfl (by omega) (by decide), if_pos (by omega)]
  have has : ∀ n b q, b < 4 → q < 4 → f_X5_onlyOneWho_5 (n + 1) (nI w) (nI k) (nI q) (nI b) = if dg w 4 b = k then some (-6) else f_X5_onlyOneWho_5 n (nI w) (nI k) (nI q) (nI (b + 1)) := by
    intro n b q hb hq
    rw [st n b _ hb, if_neg (c := nI q = -6) (n_m6 (by omega))]
  show f_X5_onlyOneWho_5 5000 (nI w) (nI k) (-6) (nI 0) = _
  rw [st 4999 0 _ (by omega)]
  by_cases c0 : dg w 4 0 = k
  · rw [if_pos c0, if_pos rfl, has 4998 1 0 (by omega) (by omega), has 4997 2 0 (by omega) (by omega), has 4996 3 0 (by omega) (by omega), fin 4995]
    by_cases c1 : dg w 4 1 = k <;> by_cases c2 : dg w 4 2 = k <;> by_cases c3 : dg w 4 3 = k <;> simp [c0, c1, c2, c3, oo, ooI]
  · rw [if_neg c0, st 4998 1 _ (by omega)]
    by_cases c1 : dg w 4 1 = k
    · rw [if_pos c1, if_pos rfl, has 4997 2 1 (by omega) (by omega), has 4996 3 1 (by omega) (by omega), fin 4995]
      by_cases c2 : dg w 4 2 = k <;> by_cases c3 : dg w 4 3 = k <;> simp [c0, c1, c2, c3, oo, ooI]
    · rw [if_neg c1, st 4997 2 _ (by omega)]
      by_cases c2 : dg w 4 2 = k
      · rw [if_pos c2, if_pos rfl, has 4996 3 2 (by omega) (by omega), fin 4995]
        by_cases c3 : dg w 4 3 = k <;> simp [c0, c1, c2, c3, oo, ooI]
      · rw [if_neg c2, st 4996 3 _ (by omega), fin 4995, fin 4995]
        by_cases c3 : dg w 4 3 = k <;> simp [c0, c1, c2, c3, oo, ooI]
section PASS
variable {h : gi_H} {c0 : va_E} {N : Nat → Nat} {ns : Nat} {sg : Nat → Nat} {np : Nat} {P : Nat → Nat} {im : Nat → gi_Im} {IM : Nat → Nat}
variable {a : Int32} {b : Bool} {c d e : Int32} {u : Int64}
theorem m_only (G : go h 31 6 (mf ns np a b c d e u)) (B : ga h 32 63 N) (I : inv N) {w : Nat} (W : ga h 37 4 (fun i => dg w 4 i)) {p : Nat} (hp : p < 12) (K : gi_H → Nat → Int32 → Int32 → Option (Int32 × gi_H)) (x : Int32) : f_X6_pass_94 K gi_F h 31 x (nI p) (-6) 0 0 = match oo (decide (dg w 4 0 = N (16 + 4 * p))) (decide (dg w 4 1 = N (16 + 4 * p))) (decide (dg w 4 2 = N (16 + 4 * p))) (decide (dg w 4 3 = N (16 + 4 * p))) with
    | some q => if q = N (15 + 4 * p) then K h 31 (x + 0) (nI p + 1) else K h 31 (x + 1) (nI p + 1)
    | none => some (-6, h) := by
  obtain ⟨i1, i2, i3, i4, i5, i6, i7, i8, i9⟩ := I
  obtain ⟨j1, j2, -⟩ := i8 p hp
  obtain ⟨r, r0, r1, r2, r3, r4, r5, r6, r7, r8, r9, r10, r11, r12, r13, -⟩ := mf_rd G
  have st : ∀ n q (f : Int32) (m : Nat), q < 4 → f_X6_pass_94 K (n + 1) h 31 x (nI p) f (nI m) (nI q) = f_X6_pass_94 K n h 31 x (nI p) (if dg w 4 q = N (16 + 4 * p) then nI q else f) (nI (m + if dg w 4 q = N (16 + 4 * p) then 1 else 0)) (nI (q + 1)) := by
    intro n q f m hq
    have hl := dg_lt w 4 q
    conv => lhs; unfold f_X6_pass_94
    unfold f_X6_pass_129
    rw [n_ifge 4 4 rfl (by omega) (by decide), if_neg (by omega), r13, r0]
    simp only [Option.bind_some]
    rw [ga_rd W hq (by decide), ga_rl B (n_16 p) (by omega) (by decide)]
    simp only [Option.bind_some]
    rw [nI_1, nI_1, show nI m + 0 = nI m from Int32.add_zero _]
    by_cases c : dg w 4 q = N (16 + 4 * p)
    · have cc : nI (dg w 4 q) = nI (N (16 + 4 * p)) := by rw [c]
      rw [if_pos cc, if_pos cc, if_pos c, if_pos c]
    · have cc : ¬ nI (dg w 4 q) = nI (N (16 + 4 * p)) := n_ne (by omega) (by omega) c
      rw [if_neg cc, if_neg cc, if_neg c, if_neg c]
      rfl
  have fin : ∀ n (f : Int32) (m : Nat), m < 1000 → f_X6_pass_94 K (n + 1) h 31 x (nI p) f (nI m) (nI 4) = if m = 1 then (if f = nI (N (15 + 4 * p)) then K h 31 (x + 0) (nI p + 1) else K h 31 (x + 1) (nI p + 1)) else some (-6, h) := by
    intro n f m hm
    unfold f_X6_pass_94 f_X6_pass_169
    rw [n_ifge 4 4 rfl (by omega) (by decide), if_pos (by omega), n_ifc 1 1 rfl (by omega) (by decide), r0]
    simp only [Option.bind_some]
    rw [ga_rl B (n_15 p) (by omega) (by decide)]
    rfl
  show f_X6_pass_94 K 5000 h 31 x (nI p) (-6) (nI 0) (nI 0) = _
  rw [st 4999 0 _ _ (by omega), st 4998 1 _ _ (by omega), st 4997 2 _ _ (by omega), st 4996 3 _ _ (by omega), fin 4995 _ _ (by split <;> split <;> split <;> split <;> omega)]
  have key : ∀ q, q < 4 → (nI q = nI (N (15 + 4 * p))) = (q = N (15 + 4 * p)) := fun q hq => propext (nI_eq (by omega) (by omega))
  by_cases c0 : dg w 4 0 = N (16 + 4 * p) <;> by_cases c1 : dg w 4 1 = N (16 + 4 * p) <;> by_cases c2 : dg w 4 2 = N (16 + 4 * p) <;> by_cases c3 : dg w 4 3 = N (16 + 4 * p) <;> simp [c0, c1, c2, c3, oo, key]
theorem m_wants (G : go h 31 6 (mf ns np a b c d e u)) {g : Nat → Nat} (W : ga h 37 4 g) {w : Nat} (hw : w < 10000) : ∃ h', gfr [37] h h' ∧ (∃ g, ga h' 37 4 g) ∧ (goodW w → f_X6_pass_18 gi_F h 31 (nI w) 3 = f_X6_pass_62 gi_F h' 31 0 0 ∧ ga h' 37 4 (fun i => dg w 4 i)) ∧ (¬ goodW w → f_X6_pass_18 gi_F h 31 (nI w) 3 = some (-2, h')) := by
  have st : ∀ n q r (h : gi_H) (g : Nat → Nat), q < 4 → r < 2 ^ 31 → go h 31 6 (mf ns np a b c d e u) → ga h 37 4 g → ∃ h', ga h' 37 4 (gu g q (r % 10)) ∧ gfr [37] h h' ∧ f_X6_pass_18 (n + 1) h 31 (nI r) (nI q) = if r % 10 ≤ 6 then f_X6_pass_18 n h' 31 (nI (r / 10)) (nI q + (-1)) else some (-2, h') := by
    intro n q r h g hq hr G W
    obtain ⟨t, t0, t1, t2, t3, t4, t5, t6, t7, t8, t9, t10, t11, t12, t13, -⟩ := mf_rd G
    obtain ⟨h1, e1, W1, f1⟩ := ga_wr W hq (by decide) (r % 10)
    refine ⟨h1, W1, f1, ?_⟩
    conv => lhs; unfold f_X6_pass_18
    rw [if_neg (n_lt0 (by omega)), t13, n_m10 hr]
    simp only [Option.bind_some]
    rw [e1]
    simp only [Option.bind_some]
    rw [(mf_rd (G.fr f1 (by decide))).2.2.2.2.2.2.2.2.2.2.2.2.2.2.1]
    simp only [Option.bind_some]
    rw [ga_rd W1 hq (by decide), gu_self]
    simp only [Option.bind_some]
    rw [n_ifle 6 6 rfl (by omega) (by decide), n_d10 hr]
  obtain ⟨d0, d1, d2, d3⟩ := dg_4 w
  unfold goodW
  rw [d0, d1, d2, d3]
  obtain ⟨h1, W1, f1, e1⟩ := st 4999 3 w h g (by omega) (by omega) G W
  have e1 : f_X6_pass_18 gi_F h 31 (nI w) 3 = _ := e1
  rw [e1]
  by_cases k3 : w % 10 ≤ 6
  · rw [if_pos k3, n_dec (by omega)]
    obtain ⟨h2, W2, f2, e2⟩ := st 4998 2 (w / 10) h1 _ (by omega) (by omega) (G.fr f1 (by decide)) W1
    have e2 : f_X6_pass_18 4999 h1 31 (nI (w / 10)) (nI (3 - 1)) = _ := e2
    rw [e2]
    by_cases k2 : w / 10 % 10 ≤ 6
    · rw [if_pos k2, n_dec (by omega)]
      obtain ⟨h3, W3, f3, e3⟩ := st 4997 1 (w / 10 / 10) h2 _ (by omega) (by omega) ((G.fr f1 (by decide)).fr f2 (by decide)) W2
      have e3 : f_X6_pass_18 4998 h2 31 (nI (w / 10 / 10)) (nI (2 - 1)) = _ := e3
      rw [e3]
      by_cases k1 : w / 10 / 10 % 10 ≤ 6
      · rw [if_pos k1, n_dec (by omega)]
        obtain ⟨h4, W4, f4, e4⟩ := st 4996 0 (w / 10 / 10 / 10) h3 _ (by omega) (by omega) (((G.fr f1 (by decide)).fr f2 (by decide)).fr f3 (by decide)) W3
        have e4 : f_X6_pass_18 4997 h3 31 (nI (w / 10 / 10 / 10)) (nI (1 - 1)) = _ := e4
        rw [e4]
        have F := ((f1.trans f2).trans f3).trans f4
        by_cases k0 : w / 10 / 10 / 10 % 10 ≤ 6
        · rw [if_pos k0]
          refine ⟨h4, F, ⟨_, W4⟩, fun _ => ⟨?_, W4.cong (fun i hi => ?_)⟩, fun z => absurd ⟨by omega, by omega, by omega, by omega⟩ z⟩
          · unfold f_X6_pass_18
            rw [if_pos (by decide)]
          · rcases (show i = 0 ∨ i = 1 ∨ i = 2 ∨ i = 3 by omega) with rfl | rfl | rfl | rfl
            · rw [gu_self, d0]; omega
            · rw [gu_ne _ _ (by omega), gu_self, d1]; omega
            · rw [gu_ne _ _ (by omega), gu_ne _ _ (by omega), gu_self, d2]
            · rw [gu_ne _ _ (by omega), gu_ne _ _ (by omega), gu_ne _ _ (by omega), gu_self, d3]
        · rw [if_neg k0]
          exact ⟨h4, F, ⟨_, W4⟩, fun z => by omega, fun _ => rfl⟩
      · rw [if_neg k1]
        exact ⟨h3, (f1.trans f2).trans f3, ⟨_, W3⟩, fun z => by omega, fun _ => rfl⟩
    · rw [if_neg k2]
      exact ⟨h2, f1.trans f2, ⟨_, W2⟩, fun z => by omega, fun _ => rfl⟩
  · rw [if_neg k3]
    exact ⟨h1, f1, ⟨_, W1⟩, fun z => by omega, fun _ => rfl⟩
theorem k_pass (K : Core h c0 N ns sg np P im IM) (S : Scr h ns np) (x : Int32) : RW c0 (f_X5_pass h 1 x) (f_X6_pass h 31 x) := by
  obtain ⟨s1, s2, s3, s4, s5, ⟨a, b, c, d, e, u, G⟩, s7, s8, ⟨gw, W⟩⟩ := id S
  obtain ⟨ci, c1, -⟩ := cls_rd K
  have same : SS h c0 := ⟨N, ns, sg, np, P, im, IM, K, S⟩
  rcases ar_in 0 9999 0 9999 rfl rfl (by decide) (by decide) x with ⟨n1, n2⟩ | ⟨w, -, hw, rfl, n1, n2⟩
  · refine ⟨-2, h, ?_, by unfold f_X6_pass; rw [n2]; rfl, same⟩
    unfold f_X5_pass f_X5_areWants
    have : f_X5_isWithin x 0 6666 = some 0 := by
      rcases ar_in 0 6666 0 6666 rfl rfl (by decide) (by decide) x with ⟨m1, -⟩ | ⟨w, -, hw, rfl, -, -⟩
      · exact m1
      · rw [in_nI 0 9999 rfl rfl (by decide) (Nat.zero_le w) (show w ≤ 9999 by omega)] at n1
        cases n1
    rw [this]
    rfl
  obtain ⟨w1, w2⟩ := wants_eq (w := w) (by omega)
  obtain ⟨h1, f1, ⟨g1, W1⟩, m1, m2⟩ := m_wants G W (w := w) (by omega)
  have K1 := K.fr f1 (by decide)
  have G1 := G.fr f1 (by decide)
  have S1 : Scr h1 ns np := by
    obtain ⟨⟨q1, q2, q3, q4, q5, S1⟩, ⟨t1, t2, t3, S2⟩, ⟨g1', S3⟩, ⟨g2, S4⟩, ⟨g3, S5⟩, -, ⟨g4, S7⟩, ⟨g5, S8⟩, -⟩ := id S
    exact ⟨⟨_, _, _, _, _, S1.fr f1 (by decide)⟩, ⟨_, _, _, S2.fr f1 (by decide)⟩, ⟨_, S3.fr f1 (by decide)⟩, ⟨_, by rw [f1.2 _ (by decide)]; exact S4⟩, ⟨_, S5.fr f1 (by decide)⟩, ⟨_, _, _, _, _, _, G1⟩, ⟨_, S7.fr f1 (by decide)⟩, ⟨_, S8.fr f1 (by decide)⟩, ⟨_, W1⟩⟩
  have fin : SS h1 c0 := ⟨N, ns, sg, np, P, im, IM, K1, S1⟩
  by_cases gd : goodW w
  · obtain ⟨e1, W2⟩ := m1 gd
    unfold RW f_X5_pass f_X6_pass
    rw [w1 gd, n2, Option.bind_some, if_neg i1_ne0, Option.bind_some, if_neg i1_ne0, e1]
    obtain ⟨ri, r0, r1, r2, r3, r4, r5, q6, q7, q8, q9, q10, q11, q12, q13, q14, a6, a7, a8, a9, a10, a11, -⟩ := bk_rd K.bok
    obtain ⟨i1, i2, i3, i4, i5, i6, i7, i8, i9⟩ := id K.iv
    have st : ∀ n p (v : Int32), p ≤ 12 → 12 - p < n → ∃ r, f_X5_pass_14 h n 1 (nI w) v (nI p) = some r ∧ f_X6_pass_62 n h1 31 v (nI p) = some (r, h1) := by
      intro n
      induction n with
      | zero => intro p v _ hn; omega
      | succ n ih =>
        intro p v hp hn
        unfold f_X5_pass_14 f_X6_pass_62
        rw [n_ifge 12 12 rfl (by omega) (by decide), n_ifge 12 12 rfl (by omega) (by decide)]
        rcases Nat.lt_or_ge p 12 with hlt | hge
        · obtain ⟨j1, j2, -⟩ := i8 p hlt
          rw [if_neg (by omega), if_neg (by omega), c1, (mf_rd G1).2.1]
          simp only [Option.bind_some]
          rw [if_pos ri, d_stands K.bok i7 hlt, q8, q9, ga_rl K1.mbk (I := 14) (i := 14) rfl (by omega) (by decide)]
          simp only [Option.bind_some]
          rw [a8 p hlt, a9 p hlt, x6_has (by omega) (by omega)]
          simp only [Option.bind_some]
          rw [n_ifb, n_ifb, only_eq (by omega) (by omega), m_only G1 K1.mbk K.iv W2 hlt]
          simp only [Option.bind_some]
          by_cases cs : (N 14).testBit p = true
          · rw [if_pos cs, if_pos cs]
            have hq := oo_lt (decide (dg w 4 0 = N (16 + 4 * p))) (decide (dg w 4 1 = N (16 + 4 * p))) (decide (dg w 4 2 = N (16 + 4 * p))) (decide (dg w 4 3 = N (16 + 4 * p)))
            cases ho : oo (decide (dg w 4 0 = N (16 + 4 * p))) (decide (dg w 4 1 = N (16 + 4 * p))) (decide (dg w 4 2 = N (16 + 4 * p))) (decide (dg w 4 3 = N (16 + 4 * p))) with
            | none => exact ⟨-6, rfl, rfl⟩
            | some q =>
              have hq := hq q ho
              have e1 : ooI (some q) = nI q := rfl
              simp only [e1]
              rw [if_neg (n_m6 (by omega)), n_ifc (nI (N (15 + 4 * p))) _ rfl (by omega) (by omega), nI_1, show v + 0 = v from Int32.add_zero v]
              by_cases cq : q = N (15 + 4 * p)
              · rw [if_pos cq, if_pos cq]; exact ih (p + 1) v (by omega) (by omega)
              · rw [if_neg cq, if_neg cq]; exact ih (p + 1) (v + 1) (by omega) (by omega)
          · rw [if_neg cs, if_neg cs, nI_1]
            exact ih (p + 1) v (by omega) (by omega)
        · rw [if_pos (by omega), if_pos (by omega)]
          exact ⟨v, rfl, rfl⟩
    obtain ⟨r, e2, e3⟩ := st gi_F 0 0 (by omega) (by decide)
    exact ⟨r, h1, e2, e3, fin⟩
  · refine ⟨-2, h1, ?_, ?_, fin⟩
    · unfold f_X5_pass
      rw [w2 gd]
      rfl
    · unfold f_X6_pass
      rw [n2, Option.bind_some, if_neg i1_ne0]
      exact m2 gd
end PASS
