/-! VOIDS, 3: the reference's sets, the call -/
def gS (N : Nat → Nat) (D j : Nat) : Nat → Nat
  | 0 => 0
  | n + 1 => gS N D j n + if D.testBit n = true ∧ cd N n = j then N (17 + 4 * n) else 0
theorem gS_sm {N : Nat → Nat} (I : inv N) (S j : Nat) : ∀ n, n ≤ 12 → gS N (dif (N 14) S) j n = sm N (dif (gr N j) S) n := by
  intro n
  induction n with
  | zero => intro _; rfl
  | succ n ih =>
    intro hn
    show gS N (dif (N 14) S) j n + _ = sm N (dif (gr N j) S) n + _
    rw [ih (by omega)]
    congr 1
    have h1 := mb_dif (N 14) S n
    have h2 := mb_dif (gr N j) S n
    rw [mb_gr I] at h2
    unfold mb at h1 h2
    by_cases c : (dif (N 14) S).testBit n = true ∧ cd N n = j
    · rw [if_pos c, if_pos (h2.mpr ⟨⟨by omega, (h1.mp c.1).1, c.2⟩, (h1.mp c.1).2⟩)]
    · rw [if_neg c, if_neg (fun z => c ⟨h1.mpr ⟨(h2.mp z).1.2.1, (h2.mp z).2⟩, (h2.mp z).1.2.2⟩)]
theorem gS_le {N : Nat → Nat} (I : inv N) (D j : Nat) : ∀ n, n ≤ 12 → gS N D j n ≤ 90 * n := by
  intro n
  induction n with
  | zero => intro _; exact Nat.le_refl _
  | succ n ih =>
    intro hn
    have := ih (by omega)
    obtain ⟨c, h1, h2⟩ := (I.2.2.2.2.2.2.2.1 n (by omega)).2.2.1
    show gS N D j n + _ ≤ _
    split <;> omega
theorem n_6m (a b : Nat) : (6 : Int32) * nI a + nI b = nI (6 * a + b) := by show nI 6 * nI a + nI b = _; rw [pk_mul, nI_add]
def okv (N : Nat → Nat) (ns np : Nat) (h : gi_H) : Prop := (∃ a b c d e u, go h 31 6 (mf ns np a b c d e u)) ∧ ga h 32 63 N
theorem okv.fr {N : Nat → Nat} {ns np : Nat} {h h' : gi_H} (k : okv N ns np h) (f : gfr [36] h h') : okv N ns np h' := by
  obtain ⟨⟨a, b, c, d, e, u, g1⟩, g2⟩ := k
  exact ⟨⟨a, b, c, d, e, u, g1.fr f (by decide)⟩, g2.fr f (by decide)⟩
theorem okv.rd {N : Nat → Nat} {ns np : Nat} {h : gi_H} (k : okv N ns np h) : gi_fR h 31 6 0 = some 32 ∧ gi_fR h 31 6 12 = some 36 := by
  obtain ⟨⟨a, b, c, d, e, u, g1⟩, g2⟩ := k
  obtain ⟨-, r0, -, -, -, -, -, -, -, -, -, -, -, r12, -⟩ := mf_rd g1
  exact ⟨r0, r12⟩
section VOIDS3
variable {h : gi_H} {c0 : va_E} {N : Nat → Nat} {ns : Nat} {sg : Nat → Nat} {np : Nat} {P : Nat → Nat} {im : Nat → gi_Im} {IM : Nat → Nat}
theorem m_v83 (K : gi_H → Nat → Int32 → Int32 → Int32 → Int32 → Option (Int32 × gi_H)) (x1 x2 x3 x4 x5 : Int32) : ∀ n i (h : gi_H) (g : Nat → Nat), i ≤ 24 → 24 - i < n → okv N ns np h → ga h 36 24 g → (∀ j, j < i → g j = 0) → ∃ h' g', f_X6_voids_83 K n h 31 x1 x2 x3 x4 x5 (nI i) = f_X6_voids_107 K gi_F h' 31 x1 x2 x3 x4 x5 0 ∧ ga h' 36 24 g' ∧ (∀ j, j < 24 → g' j = 0) ∧ gfr [36] h h' := by
  intro n
  induction n with
  | zero => intro i h g _ hn; omega
  | succ n ih =>
    intro i h g hi hn O A hz
    rw [f_X6_voids_83, n_ifge 24 24 rfl (by omega) (by decide)]
    by_cases c1 : i = 24
    · rw [if_pos (by omega)]
      exact ⟨h, g, rfl, A, fun j hj => hz j (by omega), gfr.refl _ _⟩
    · obtain ⟨h1, e1, A1, f1⟩ := ga_wr A (i := i) (by omega) (by decide) 0
      rw [if_neg (by omega), O.rd.2, Option.bind_some, show gi_pi h 36 0 (nI i) 0 = some h1 from e1, Option.bind_some, nI_1]
      obtain ⟨h', g', e, a, b, f⟩ := ih (i + 1) h1 (gu g i 0) (by omega) (by omega) (O.fr f1) A1 (fun j hj => by
        by_cases c2 : j = i
        · rw [c2, gu_self]
        · rw [gu_ne _ _ c2]; exact hz j (by omega))
      exact ⟨h', g', e, a, b, f1.trans f⟩
theorem m_v107 (I : inv N) (K : gi_H → Nat → Int32 → Int32 → Int32 → Int32 → Option (Int32 × gi_H)) (x1 x2 x3 x5 : Int32) (S : Nat) : ∀ n p (h : gi_H) (g : Nat → Nat), p ≤ 12 → 12 - p < n → okv N ns np h → ga h 36 24 g → (∀ j, j < 24 → g j = gS N (dif (N 14) S) j p) → ∃ h' g', f_X6_voids_107 K n h 31 x1 x2 x3 (nI S) x5 (nI p) = f_X6_voids_191 K gi_F h' 31 x1 x2 x3 (nI S) x5 0 ∧ ga h' 36 24 g' ∧ (∀ j, j < 24 → g' j = gS N (dif (N 14) S) j 12) ∧ gfr [36] h h' := by
  intro n
  induction n with
  | zero => intro p h g _ hn; omega
  | succ n ih =>
    intro p h g hp hn O A hz
    rw [f_X6_voids_107, n_ifge 12 12 rfl (by omega) (by decide)]
    by_cases c1 : p = 12
    · rw [if_pos (by omega)]
      exact ⟨h, g, rfl, A, fun j hj => by rw [hz j hj, c1], gfr.refl _ _⟩
    have hT := I.2.2.2.2.2.2.1
    obtain ⟨j1, j2, -⟩ := I.2.2.2.2.2.2.2.1 p (by omega)
    have hd : dif (N 14) S < 4096 := sb_lt hT (dif_sb _ _)
    have hs : ∀ j, gS N (dif (N 14) S) j (p + 1) = gS N (dif (N 14) S) j p + if (dif (N 14) S).testBit p = true ∧ cd N p = j then N (17 + 4 * p) else 0 := fun j => rfl
    have hc : cd N p < 24 := by unfold cd; omega
    rw [if_neg (by omega), O.rd.1, Option.bind_some, ga_rl O.2 (I := 14) (i := 14) rfl (by omega) (by decide), Option.bind_some, n_dif, x6_has (by omega) (by omega), Option.bind_some, n_ifb, nI_1]
    by_cases c2 : (dif (N 14) S).testBit p = true
    · obtain ⟨h1, e1, A1, f1⟩ := ga_wr A (i := cd N p) hc (by decide) (g (cd N p) + N (17 + 4 * p))
      rw [if_pos c2, O.rd.2, Option.bind_some, Option.bind_some, ga_rl O.2 (n_15 p) (by omega) (by decide), Option.bind_some, Option.bind_some, ga_rl O.2 (n_16 p) (by omega) (by decide), Option.bind_some, n_6m, show nI (6 * N (15 + 4 * p) + N (16 + 4 * p)) = nI (cd N p) from rfl, ga_rd A hc (by decide), Option.bind_some, Option.bind_some, ga_rl O.2 (n_17 p) (by omega) (by decide), Option.bind_some, nI_add, e1, Option.bind_some]
      obtain ⟨h', g', e, a, b, f⟩ := ih (p + 1) h1 (gu g (cd N p) (g (cd N p) + N (17 + 4 * p))) (by omega) (by omega) (O.fr f1) A1 (fun j hj => by
        rw [hs]
        by_cases c3 : j = cd N p
        · rw [c3, gu_self, if_pos ⟨c2, rfl⟩, hz _ hc]
        · rw [gu_ne _ _ c3, if_neg (fun z => c3 z.2.symm), hz j hj]; rfl)
      exact ⟨h', g', e, a, b, f1.trans f⟩
    · rw [if_neg c2]
      exact ih (p + 1) h g (by omega) (by omega) O A (fun j hj => by rw [hs, if_neg (fun z => c2 z.1), hz j hj]; rfl)
theorem m_v191 (K : gi_H → Nat → Int32 → Int32 → Int32 → Int32 → Option (Int32 × gi_H)) (x2 x3 x4 : Int32) {v : Nat} (hv : v ≤ 999) (O : okv N ns np h) {g : Nat → Nat} (A : ga h 36 24 g) (hg : ∀ j, j < 24 → g j < 2 ^ 31) : ∀ n i (b : Bool), i ≤ 24 → 24 - i < n → ∃ r : Bool, (r = true ↔ b = true ∧ ∀ j, i ≤ j → j < 24 → g j ≤ v) ∧ f_X6_voids_191 K n h 31 (nI v) x2 x3 x4 (bI b) (nI i) = f_X6_voids_227 K h 31 (nI v) x2 x3 x4 (bI r) := by
  intro n
  induction n with
  | zero => intro i b _ hn; omega
  | succ n ih =>
    intro i b hi hn
    rw [f_X6_voids_191, n_ifge 24 24 rfl (by omega) (by decide)]
    by_cases c1 : i = 24
    · rw [if_pos (by omega)]
      exact ⟨b, ⟨fun z => ⟨z, fun j h1 h2 => by omega⟩, fun z => z.1⟩, rfl⟩
    rw [if_neg (by omega), nI_1]
    cases b with
    | false =>
      rw [if_pos (show bI false = 0 from rfl)]
      obtain ⟨r, r1, r2⟩ := ih (i + 1) false (by omega) (by omega)
      exact ⟨r, ⟨fun z => absurd (r1.mp z).1 (by decide), fun z => absurd z.1 (by decide)⟩, r2⟩
    | true =>
      rw [if_neg (show ¬ bI true = 0 by decide), O.rd.2, Option.bind_some, ga_rd A (by omega) (by decide), Option.bind_some, n_iflt (nI (g i)) (g i) rfl (by omega) (hg i (by omega))]
      by_cases c2 : v < g i
      · rw [if_pos c2]
        obtain ⟨r, r1, r2⟩ := ih (i + 1) false (by omega) (by omega)
        refine ⟨r, ⟨fun z => absurd (r1.mp z).1 (by decide), fun z => ?_⟩, r2⟩
        have := z.2 i (by omega) (by omega)
        omega
      · rw [if_neg c2]
        obtain ⟨r, r1, r2⟩ := ih (i + 1) true (by omega) (by omega)
        refine ⟨r, ⟨fun z => ⟨rfl, fun j h1 h2 => ?_⟩, fun z => r1.mpr ⟨rfl, fun j h1 h2 => z.2 j (by omega) h2⟩⟩, r2⟩
        by_cases c3 : j = i
        · rw [c3]; omega
        · exact (r1.mp z).2 j (by omega) h2
theorem m_v68 (I : inv N) (K : gi_H → Nat → Int32 → Int32 → Int32 → Int32 → Option (Int32 × gi_H)) (x2 x3 : Int32) {v : Nat} (hv : v ≤ 999) (S : Nat) (O : okv N ns np h) (A : ∃ g, ga h 36 24 g) : ∃ h', gfr [36] h h' ∧ (∃ g, ga h' 36 24 g) ∧ (((∀ j, j < 24 → sm N (dif (gr N j) S) 12 ≤ v) ∧ f_X6_voids_68 K h 31 (nI v) x2 x3 (nI S) = K h' 31 (nI v) x2 (nI S) (nI (S + 1))) ∨ ((¬ ∀ j, j < 24 → sm N (dif (gr N j) S) 12 ≤ v) ∧ f_X6_voids_68 K h 31 (nI v) x2 x3 (nI S) = K h' 31 (nI v) x2 x3 (nI (S + 1)))) := by
  obtain ⟨g, A⟩ := A
  obtain ⟨h1, g1, e1, A1, z1, f1⟩ := m_v83 (N := N) (ns := ns) (np := np) K (nI v) x2 x3 (nI S) 1 gi_F 0 h g (by omega) (by decide) O A (fun j hj => by omega)
  obtain ⟨h2, g2, e2, A2, z2, f2⟩ := m_v107 (ns := ns) (np := np) I K (nI v) x2 x3 1 S gi_F 0 h1 g1 (by omega) (by decide) (O.fr f1) A1 (fun j hj => z1 j hj)
  have O2 := (O.fr f1).fr f2
  obtain ⟨r, r1, r2⟩ := m_v191 K x2 x3 (nI S) hv O2 A2 (fun j hj => by
    rw [z2 j hj]
    have := gS_le I (dif (N 14) S) j 12 (Nat.le_refl _)
    omega) gi_F 0 true (by omega) (by decide)
  have e : f_X6_voids_68 K h 31 (nI v) x2 x3 (nI S) = f_X6_voids_227 K h2 31 (nI v) x2 x3 (nI S) (bI r) := by
    unfold f_X6_voids_68 f_X6_voids_73
    rw [if_neg i1_ne0]
    exact e1.trans (e2.trans r2)
  have hq : r = true ↔ ∀ j, j < 24 → sm N (dif (gr N j) S) 12 ≤ v := by
    rw [r1]
    constructor
    · intro z j hj
      have := z.2 j (by omega) hj
      rw [z2 j hj, gS_sm I S j 12 (Nat.le_refl _)] at this
      exact this
    · intro z
      refine ⟨rfl, fun j _ hj => ?_⟩
      rw [z2 j hj, gS_sm I S j 12 (Nat.le_refl _)]
      exact z j hj
  refine ⟨h2, f1.trans f2, ⟨g2, A2⟩, ?_⟩
  rw [e]
  unfold f_X6_voids_227
  rw [nI_1]
  cases r with
  | false => right; exact ⟨fun z => absurd (hq.mpr z) (by decide), if_pos rfl⟩
  | true => left; exact ⟨hq.mp rfl, if_neg (by decide)⟩
def vi (N : Nat → Nat) (g : Nat) (F : Int32) (S : Nat) : Prop := (F = -6 ∧ ∀ s, s < S → ¬ qT N g 24 s) ∨ ∃ f, F = nI f ∧ f < S ∧ qT N g 24 f ∧ ∀ s, s < S → qT N g 24 s → wt f ≤ wt s
theorem m_v29 (I : inv N) (x2 : Int32) {v : Nat} (hv : v ≤ 999) : ∀ n S (h : gi_H) (F : Int32), S ≤ 4096 → 4096 - S < n → okv N ns np h → (∃ g, ga h 36 24 g) → vi N v F S → ∃ h' F', f_X6_voids_29 n h 31 (nI v) x2 F (nI S) = f_X6_voids_245 h' x2 F' ∧ gfr [36] h h' ∧ (∃ g, ga h' 36 24 g) ∧ vi N v F' 4096 := by
  intro n
  induction n with
  | zero => intro S h F _ hn; omega
  | succ n ih =>
    intro S h F hS hn O A V
    rw [f_X6_voids_29, n_ifge 4096 4096 rfl (by omega) (by decide)]
    by_cases c1 : S = 4096
    · rw [if_pos (by omega)]
      rw [c1] at V
      exact ⟨h, F, rfl, gfr.refl _ _, A, V⟩
    have hT := I.2.2.2.2.2.2.1
    have hd : dif S (N 14) < 4096 := sb_lt (show S < 4096 by omega) (dif_sb _ _)
    have hd0 : dif S (N 14) = 0 ↔ sb S (N 14) := by
      constructor
      · intro z p hp
        apply Classical.byContradiction
        intro y
        have := (mb_dif S (N 14) p).mpr ⟨hp, y⟩
        rw [z] at this
        exact mb_0 p this
      · intro z
        exact mb_ext (fun p => by
          rw [mb_dif]
          exact ⟨fun y => absurd (z p y.1) y.2, fun y => absurd y (mb_0 p)⟩)
    have hqT : qT N v 24 S ↔ sb S (N 14) ∧ ∀ j, j < 24 → sm N (dif (gr N j) S) 12 ≤ v := by
      unfold qT
      rw [tm_24 I]
    have keep : (qT N v 24 S → ∃ f, F = nI f ∧ f < S ∧ qT N v 24 f ∧ wt f ≤ wt S ∧ ∀ s, s < S → qT N v 24 s → wt f ≤ wt s) → vi N v F (S + 1) := by
      intro z
      rcases V with ⟨v1, v2⟩ | ⟨f, v1, v2, v3, v4⟩
      · by_cases q : qT N v 24 S
        · obtain ⟨f, q1, q2, q3, -⟩ := z q
          exact absurd q3 (v2 f q2)
        · left
          refine ⟨v1, fun s hs => ?_⟩
          by_cases e : s = S
          · rw [e]; exact q
          · exact v2 s (by omega)
      · right
        refine ⟨f, v1, by omega, v3, fun s hs hq => ?_⟩
        by_cases e : s = S
        · rw [e] at hq ⊢
          obtain ⟨f', q1, q2, q3, q4, q5⟩ := z hq
          have := (nI_eq (by omega) (by omega)).mp (v1.symm.trans q1)
          rw [this]; exact q4
        · exact v4 s (by omega) hq
    have go68 : sb S (N 14) → ((F = -6 ∧ ∀ s, s < S → ¬ qT N v 24 s) ∨ ∃ f, F = nI f ∧ f < S ∧ pc S < pc f ∧ qT N v 24 f ∧ ∀ s, s < S → qT N v 24 s → wt f ≤ wt s) → ∃ h' F', f_X6_voids_68 (f_X6_voids_29 n) h 31 (nI v) x2 F (nI S) = f_X6_voids_245 h' x2 F' ∧ gfr [36] h h' ∧ (∃ g, ga h' 36 24 g) ∧ vi N v F' 4096 := by
      intro hb hF
      obtain ⟨h1, f1, A1, ⟨z1, e1⟩ | ⟨z1, e1⟩⟩ := m_v68 I (f_X6_voids_29 n) x2 F hv S O A
      · obtain ⟨h', F', a1, a2, a3, a4⟩ := ih (S + 1) h1 (nI S) (by omega) (by omega) (O.fr f1) A1 (Or.inr ⟨S, rfl, by omega, hqT.mpr ⟨hb, z1⟩, fun s hs hq => by
          by_cases e : s = S
          · rw [e]; exact Nat.le_refl _
          · rcases hF with ⟨-, w⟩ | ⟨f, w1, w2, w3, w4, w5⟩
            · exact absurd hq (w s (by omega))
            · have := w5 s (by omega) hq
              unfold wt at this ⊢
              omega⟩)
        exact ⟨h', F', e1.trans a1, f1.trans a2, a3, a4⟩
      · obtain ⟨h', F', a1, a2, a3, a4⟩ := ih (S + 1) h1 F (by omega) (by omega) (O.fr f1) A1 (keep (fun q => absurd (hqT.mp q).2 z1))
        exact ⟨h', F', e1.trans a1, f1.trans a2, a3, a4⟩
    have go72 : vi N v F (S + 1) → ∃ h' F', f_X6_voids_72 (f_X6_voids_29 n) h 31 (nI v) x2 F (nI S) = f_X6_voids_245 h' x2 F' ∧ gfr [36] h h' ∧ (∃ g, ga h' 36 24 g) ∧ vi N v F' 4096 := by
      intro V'
      unfold f_X6_voids_72 f_X6_voids_73
      rw [if_pos rfl, nI_1]
      exact ih (S + 1) h F (by omega) (by omega) O A V'
    rw [if_neg (by omega), O.rd.1, Option.bind_some, ga_rl O.2 (I := 14) (i := 14) rfl (by omega) (by decide), Option.bind_some, n_dif, n_if0 (by omega)]
    by_cases c2 : dif S (N 14) = 0
    · rw [if_pos c2]
      have hb := hd0.mp c2
      rcases V with ⟨v1, v2⟩ | ⟨f, v1, v2, v3, v4⟩
      · rw [if_pos (show F < 0 by rw [v1]; decide)]
        exact go68 hb (Or.inl ⟨v1, v2⟩)
      · have p1 := pc_le S
        have p2 := pc_le f
        rw [if_neg (show ¬ F < 0 by rw [v1]; exact n_lt0 (by omega)), bits4 S (by omega), Option.bind_some, show f_X6_bits F = some (nI (pc f)) by rw [v1]; exact bits4 f (by omega), Option.bind_some, n_ifle (nI (pc S)) (pc S) rfl (by omega) (by omega)]
        by_cases c3 : pc f ≤ pc S
        · rw [if_pos c3]
          exact go72 (keep (fun _ => ⟨f, v1, v2, v3, by unfold wt; omega, v4⟩))
        · rw [if_neg c3]
          exact go68 hb (Or.inr ⟨f, v1, v2, by omega, v3, v4⟩)
    · rw [if_neg c2]
      exact go72 (keep (fun q => absurd (hd0.mpr (hqT.mp q).1) c2))
theorem k_voids (K : Core h c0 N ns sg np P im IM) (S : Scr h ns np) (x y : Int32) : RW c0 (f_X5_voids h 1 x y) (f_X6_voids h 31 x y) := by
  obtain ⟨s1, s2, s3, s4, s5, ⟨a, b, c, d, e, u, G⟩, s7, s8, s9⟩ := id S
  rcases ar_in 0 999 0 999 rfl rfl (by decide) (by decide) x with ⟨n1, n2⟩ | ⟨v, -, hv, rfl, n1, n2⟩
  · refine ⟨-2, h, ?_, ?_, N, ns, sg, np, P, im, IM, K, S⟩
    · unfold f_X5_voids; rw [n1]; rfl
    · unfold f_X6_voids; rw [n2]; rfl
  rcases ar_in 0 1 0 1 rfl rfl (by decide) (by decide) y with ⟨m1, m2⟩ | ⟨w, -, hw, rfl, m1, m2⟩
  · refine ⟨-2, h, ?_, ?_, N, ns, sg, np, P, im, IM, K, S⟩
    · unfold f_X5_voids; rw [n1, Option.bind_some, if_neg i1_ne0, m1]; rfl
    · unfold f_X6_voids; rw [n2, Option.bind_some, if_neg i1_ne0, m2]; rfl
  have O : okv N ns np h := ⟨⟨a, b, c, d, e, u, G⟩, K.mbk⟩
  obtain ⟨U, u1, u2⟩ := c_v28 K.bok K.cls K.iv hv (nI w) gi_F 0 0 (by omega) (by decide) (v_zero N v)
  obtain ⟨h2, F, e2, f2, A2, V⟩ := m_v29 (ns := ns) (np := np) K.iv (nI w) hv gi_F 0 h (-6) (by omega) (by decide) O s8 (Or.inl ⟨rfl, fun s hs => by omega⟩)
  have hU : U < 4096 := sb_lt (tm_lt N 24) u1.1.1
  have hF : F = nI U := by
    rcases V with ⟨-, z⟩ | ⟨f, z1, z2, z3, z4⟩
    · exact absurd u1.1 (z U hU)
    · have h1 := u1.2 f z3
      have h2 := z4 U hU u1.1
      rw [z1, wt_inj z2 hU (by omega)]
  rw [hF] at e2
  have E1 : f_X5_voids h 1 (nI v) (nI w) = f_X5_voids_78 h (nI w) (nI U) := by
    unfold f_X5_voids
    rw [n1, Option.bind_some, if_neg i1_ne0, m1, Option.bind_some, if_neg i1_ne0]
    exact u2
  have E2 : f_X6_voids h 31 (nI v) (nI w) = f_X6_voids_245 h2 (nI w) (nI U) := by
    unfold f_X6_voids
    rw [n2, Option.bind_some, if_neg i1_ne0, m2, Option.bind_some, if_neg i1_ne0]
    exact e2
  have SS2 : SS h2 c0 := by
    refine ⟨N, ns, sg, np, P, im, IM, K.fr f2 (by decide), ?_⟩
    obtain ⟨⟨a', b', c', d', e', t1⟩, ⟨x', y', z', t2⟩, ⟨g1, t3⟩, ⟨g2, t4⟩, ⟨g3, t5⟩, -, ⟨g4, t7⟩, -, ⟨g6, t9⟩⟩ := S
    exact ⟨⟨a', b', c', d', e', t1.fr f2 (by decide)⟩, ⟨x', y', z', t2.fr f2 (by decide)⟩, ⟨g1, t3.fr f2 (by decide)⟩, ⟨g2, by rw [f2.2 27 (by decide)]; exact t4⟩, ⟨g3, t5.fr f2 (by decide)⟩, ⟨a, b, c, d, e, u, G.fr f2 (by decide)⟩, ⟨g4, t7.fr f2 (by decide)⟩, A2, ⟨g6, t9.fr f2 (by decide)⟩⟩
  rw [E1, E2]
  unfold f_X5_voids_78 f_X6_voids_245
  rw [if_neg (n_lt0 (by omega)), n_if0 (by omega), n_ifc 1 1 rfl (by omega) (by decide), pcA hU, bits4 U (by omega), Option.bind_some, Option.bind_some]
  by_cases c1 : w = 0
  · rw [if_pos c1, if_neg (by omega)]
    exact ⟨_, h2, rfl, rfl, SS2⟩
  · rw [if_neg c1, if_pos (by omega)]
    exact ⟨_, h2, rfl, rfl, SS2⟩
end VOIDS3
