/-! ASK, 5: the call -/
theorem mk_none {f : Nat → Bool} : ∀ n, (∀ W, W < n → f W = false) → mk f n = 0 := by
  intro n
  induction n with
  | zero => intro _; rfl
  | succ n ih =>
    intro h
    unfold mk
    rw [if_neg (by rw [h n (by omega)]; decide)]
    exact ih (fun W hW => h W (by omega))
theorem ct_none {f : Nat → Bool} (v : Nat → Nat) (g : Nat) : ∀ n, (∀ W, W < n → f W = false) → ctW f v g n = 0 := by
  intro n
  induction n with
  | zero => intro _; rfl
  | succ n ih =>
    intro h
    unfold ctW
    rw [if_neg (fun z => by rw [h n (by omega)] at z; cases z.1), ih (fun W hW => h W (by omega))]
theorem ct_pos {f : Nat → Bool} (v : Nat → Nat) {W : Nat} (hf : f W = true) : ∀ n, W < n → 1 ≤ ctW f v (v W) n := by
  intro n
  induction n with
  | zero => intro h; omega
  | succ n ih =>
    intro h
    unfold ctW
    by_cases c : W = n
    · subst c
      rw [if_pos ⟨hf, rfl⟩]
      omega
    · have := ih (by omega)
      omega
theorem m_142 (h : gi_H) (K1 : Nat → Int32 → Int32 → Int32 → Int32 → Option Int32) (K2 : Nat → Int32 → Int32 → Int32 → Int32 → Int32 → Option Int32) (x1 x2 x3 : Int32) (y k : Nat) {M : Nat} (hM : M ≤ 49) : f_X6_ask_142 h K1 K2 31 x1 x2 x3 (nI y) (nI k) (nI M) = if M = 0 ∨ x3 ≤ nI M then K2 31 x1 x2 x3 (nI y) (nI (k + 1)) else K2 31 x1 (nI (10 * y + k)) (nI M) (nI y) (nI (k + 1)) := by
  unfold f_X6_ask_142 f_X6_ask_157 f_X6_ask_158 f_X6_ask_177
  rw [n_ifle 0 0 rfl (by omega) (by decide), nI_1, n_10m, nI_add]
  by_cases c1 : M = 0
  · rw [if_pos (by omega), if_pos (Or.inl c1)]
    rfl
  · rw [if_neg (by omega)]
    by_cases c2 : x3 ≤ nI M
    · rw [if_pos c2, if_pos (Or.inr c2)]
      rfl
    · rw [if_neg c2, if_neg (c := M = 0 ∨ x3 ≤ nI M) (fun z => z.elim c1 c2)]
      rfl
def okr (N sg : Nat → Nat) (ns np : Nat) (hr : gi_H) : Prop := (∃ a b c d e u, go hr 31 6 (mf ns np a b c d e u)) ∧ ga hr 32 63 N ∧ ga hr 34 24 sg
def okc (N sg : Nat → Nat) (ns : Nat) (h : gi_H) : Prop := bk h 2 N ns sg ∧ go h 1 5 cls5 ∧ go h 28 4 [.ref 29] ∧ ∃ g, ga h 29 109 g
def rl (F x5 x3 : Int32) (y k : Nat) : Prop := (x5 = x3 ∧ ∃ p, p < 100 ∧ F = nI p) ∨ (y = 0 ∧ k = 0 ∧ x5 = 2147483647 ∧ x3 = 1000000)
theorem rl_if {F x5 x3 : Int32} {y k : Nat} (r : rl F x5 x3 y k) {M : Nat} (hM : M ≤ 49) : (x5 ≤ nI M ∧ x3 ≤ nI M ∧ x5 = x3 ∧ ∃ p, p < 100 ∧ F = nI p) ∨ (¬ x5 ≤ nI M ∧ ¬ x3 ≤ nI M) := by
  rcases r with ⟨e, p⟩ | ⟨-, -, e1, e2⟩
  · subst e
    by_cases c : x5 ≤ nI M
    · exact Or.inl ⟨c, c, rfl, p⟩
    · exact Or.inr ⟨c, c⟩
  · right
    rw [e1, e2, show (2147483647 : Int32) = nI 2147483647 from rfl, show (1000000 : Int32) = nI 1000000 from rfl, nI_leI (by decide) (by omega), nI_leI (by decide) (by omega)]
    omega
section ASK5
variable {h : gi_H} {c0 : va_E} {N : Nat → Nat} {ns : Nat} {sg : Nat → Nat} {np : Nat} {P : Nat → Nat} {im : Nat → gi_Im} {IM : Nat → Nat}
theorem a_in (I : inv N) (O : sgok ns sg) (hp : ∃ W, W < 49 ∧ fitW N sg W ns = true) (x1 : Int32) {y : Nat} (hy : y < 4) : ∀ n k (h : gi_H) (F x5 x3 : Int32), k ≤ 6 → 6 - k < n → okc N sg ns h → rl F x5 x3 y k → ∃ h1 F' x, (∀ K, f_X5_ask_53 K n h 1 x1 (lN (mk (fun W => fitW N sg W ns) 49)) F x5 (nI y) (nI k) = K h1 1 x1 (lN (mk (fun W => fitW N sg W ns) 49)) F' x (nI (y + 1))) ∧ (∀ hr, okr N sg ns np hr → ∀ K, f_X6_ask_30 hr K n 31 x1 F x3 (nI y) (nI k) = K 31 x1 F' x (nI (y + 1))) ∧ gfr [29] h h1 ∧ okc N sg ns h1 ∧ ((∃ p, p < 100 ∧ F' = nI p) ∨ k = 6) := by
  intro n
  induction n with
  | zero => intro k h F x5 x3 _ hn; omega
  | succ n ih =>
    intro k h F x5 x3 hk hn S r
    obtain ⟨B, C, G, A⟩ := id S
    by_cases c1 : k = 6
    · have e : x5 = x3 := by
        rcases r with ⟨e, -⟩ | ⟨-, z, -⟩
        · exact e
        · omega
      refine ⟨h, F, x5, fun K => ?_, fun hr _ K => ?_, gfr.refl _ _, S, Or.inr c1⟩
      · unfold f_X5_ask_53
        rw [n_ifge 6 6 rfl (by omega) (by decide), if_pos (by omega), nI_1]
      · unfold f_X6_ask_30
        rw [n_ifge 6 6 rfl (by omega) (by decide), if_pos (by omega), nI_1, e]
    have hM1 := wo_lt (fun W => fitW N sg W ns) (fun W => gw N W y k) 49
    have hM2 := ms_wo (fun W => fitW N sg W ns) (fun W => gw N W y k)
    have hM3 : wo (fun W => fitW N sg W ns) (fun W => gw N W y k) 49 ≠ 0 := by
      obtain ⟨W, hW, hf⟩ := hp
      have h1 := ct_pos (f := fun W => fitW N sg W ns) (fun W => gw N W y k) (W := W) hf 49 hW
      have h2 := ms_ge (fun W => fitW N sg W ns) (fun W => gw N W y k) 49 (gw N W y k)
      have h3 : 1 ≤ ctW (fun W => fitW N sg W ns) (fun W => gw N W y k) (gw N W y k) 49 := h1
      omega
    obtain ⟨h1, e1, f1, A1⟩ := c_most B G A I hy (show k < 6 by omega) (fun W => fitW N sg W ns) (fun W z => fit_wd ns z)
    rw [hM2] at e1
    have er : ∀ hr, okr N sg ns np hr → ∀ K, f_X6_ask_30 hr K (n + 1) 31 x1 F x3 (nI y) (nI k) = f_X6_ask_142 hr K (f_X6_ask_30 hr K n) 31 x1 F x3 (nI y) (nI k) (nI (wo (fun W => fitW N sg W ns) (fun W => gw N W y k) 49)) := by
      intro hr ⟨⟨a, b, c, d, e, u, g1⟩, g2, g3⟩ K
      rw [f_X6_ask_30, n_ifge 6 6 rfl (by omega) (by decide), if_neg (by omega)]
      exact m_a43 g1 g2 g3 I O hy (by omega) K (f_X6_ask_30 hr K n) x1 F x3 gi_F 0 (by omega) (by decide)
    have ec : ∀ K, f_X5_ask_53 K (n + 1) h 1 x1 (lN (mk (fun W => fitW N sg W ns) 49)) F x5 (nI y) (nI k) = if x5 ≤ nI (wo (fun W => fitW N sg W ns) (fun W => gw N W y k) 49) then f_X5_ask_53 K n h1 1 x1 (lN (mk (fun W => fitW N sg W ns) 49)) F x5 (nI y) (nI (k + 1)) else f_X5_ask_53 K n h1 1 x1 (lN (mk (fun W => fitW N sg W ns) 49)) (nI (10 * y + k)) (nI (wo (fun W => fitW N sg W ns) (fun W => gw N W y k) 49)) (nI y) (nI (k + 1)) := by
      intro K
      rw [f_X5_ask_53, n_ifge 6 6 rfl (by omega) (by decide), if_neg (by omega), go_fR C rfl, Option.bind_some, go_fR C rfl, Option.bind_some, if_pos (go_is G), e1, Option.bind_some, nI_1, n_10m, nI_add]
    have S1 : okc N sg ns h1 := ⟨B.fr f1 (by decide), C.keep (f1.2 1 (by decide)), G.keep (f1.2 28 (by decide)), A1⟩
    generalize wo (fun W => fitW N sg W ns) (fun W => gw N W y k) 49 = M at hM1 hM3 er ec
    rcases rl_if r hM1 with ⟨r1, r2, r3, p, hp1, hp2⟩ | ⟨r1, r2⟩
    · obtain ⟨h2, F', x, a1, a2, a3, a4, a5⟩ := ih (k + 1) h1 F x5 x3 (by omega) (by omega) S1 (Or.inl ⟨r3, p, hp1, hp2⟩)
      refine ⟨h2, F', x, fun K => ?_, fun hr ok K => ?_, f1.trans a3, a4, ?_⟩
      · rw [ec, if_pos r1]; exact a1 K
      · rw [er hr ok, m_142 hr _ _ _ _ _ _ _ hM1, if_pos (Or.inr r2)]; exact a2 hr ok K
      · rcases a5 with a5 | a5
        · exact Or.inl a5
        · left
          obtain ⟨n', rfl⟩ : ∃ n', n = n' + 1 := ⟨n - 1, by omega⟩
          have := a2
          refine ⟨p, hp1, ?_⟩
          have z := a1 (fun _ _ _ _ F' _ _ => some (F', h2))
          rw [f_X5_ask_53, n_ifge 6 6 rfl (by omega) (by decide), if_pos (by omega)] at z
          injection z with z
          injection z with z
          rw [← z, hp2]
    · obtain ⟨h2, F', x, a1, a2, a3, a4, a5⟩ := ih (k + 1) h1 (nI (10 * y + k)) (nI M) (nI M) (by omega) (by omega) S1 (Or.inl ⟨rfl, 10 * y + k, by omega, rfl⟩)
      refine ⟨h2, F', x, fun K => ?_, fun hr ok K => ?_, f1.trans a3, a4, ?_⟩
      · rw [ec, if_neg r1]; exact a1 K
      · rw [er hr ok, m_142 hr _ _ _ _ _ _ _ hM1, if_neg (fun z => z.elim hM3 r2)]; exact a2 hr ok K
      · rcases a5 with a5 | a5
        · exact Or.inl a5
        · left
          obtain ⟨n', rfl⟩ : ∃ n', n = n' + 1 := ⟨n - 1, by omega⟩
          refine ⟨10 * y + k, by omega, ?_⟩
          have z := a1 (fun _ _ _ _ F' _ _ => some (F', h2))
          rw [f_X5_ask_53, n_ifge 6 6 rfl (by omega) (by decide), if_pos (by omega)] at z
          injection z with z
          injection z with z
          rw [← z]
theorem a_out (I : inv N) (O : sgok ns sg) (hp : ∃ W, W < 49 ∧ fitW N sg W ns = true) (x1 : Int32) : ∀ n y (h : gi_H) (F x5 x3 : Int32), y ≤ 4 → 4 - y < n → okc N sg ns h → rl F x5 x3 y 0 → ∃ h1 v, f_X5_ask_44 n h 1 x1 (lN (mk (fun W => fitW N sg W ns) 49)) F x5 (nI y) = some (v, h1) ∧ (∀ hr, okr N sg ns np hr → f_X6_ask_21 hr n 31 x1 F x3 (nI y) = some v) ∧ gfr [29] h h1 ∧ okc N sg ns h1 := by
  intro n
  induction n with
  | zero => intro y h F x5 x3 _ hn; omega
  | succ n ih =>
    intro y h F x5 x3 hy hn S r
    by_cases c1 : y = 4
    · rcases r with ⟨e, p, hp1, hp2⟩ | ⟨z, -⟩
      · subst e hp2
        refine ⟨h, if x1 = 0 then nI p else x5, ?_, fun hr _ => ?_, gfr.refl _ _, S⟩
        · unfold f_X5_ask_44 f_X5_ask_111
          rw [n_ifge 4 4 rfl (by omega) (by decide), if_pos (by omega)]
          split <;> rfl
        · unfold f_X6_ask_21 f_X6_ask_202
          rw [n_ifge 4 4 rfl (by omega) (by decide), if_pos (by omega), if_neg (n_lt0 (by omega))]
          split <;> rfl
      · omega
    · obtain ⟨h1, F', x, a1, a2, a3, a4, a5⟩ := a_in (np := np) I O hp x1 (show y < 4 by omega) gi_F 0 h F x5 x3 (by omega) (by decide) S r
      have a5 : ∃ p, p < 100 ∧ F' = nI p := a5.resolve_right (by omega)
      obtain ⟨h2, v, b1, b2, b3, b4⟩ := ih (y + 1) h1 F' x x (by omega) (by omega) a4 (Or.inl ⟨rfl, a5⟩)
      refine ⟨h2, v, ?_, fun hr ok => ?_, a3.trans b3, b4⟩
      · rw [f_X5_ask_44, n_ifge 4 4 rfl (by omega) (by decide), if_neg (by omega)]
        exact (a1 _).trans b1
      · rw [f_X6_ask_21, n_ifge 4 4 rfl (by omega) (by decide), if_neg (by omega)]
        exact (a2 hr ok _).trans (b2 hr ok)
theorem a_none (I : inv N) (O : sgok ns sg) (hz : ∀ W, W < 49 → fitW N sg W ns = false) {hr : gi_H} (ok : okr N sg ns np hr) (x1 : Int32) : ∀ n y, y ≤ 4 → 4 - y < n → f_X6_ask_21 hr n 31 x1 (-6) 1000000 (nI y) = some (-6) := by
  obtain ⟨⟨a, b, c, d, e, u, g1⟩, g2, g3⟩ := ok
  intro n
  induction n with
  | zero => intro y _ hn; omega
  | succ n ih =>
    intro y hy hn
    rw [f_X6_ask_21, n_ifge 4 4 rfl (by omega) (by decide)]
    by_cases c1 : y = 4
    · rw [if_pos (by omega)]; rfl
    rw [if_neg (by omega)]
    have st : ∀ m k, k ≤ 6 → 6 - k < m → f_X6_ask_30 hr (f_X6_ask_21 hr n) m 31 x1 (-6) 1000000 (nI y) (nI k) = some (-6) := by
      intro m
      induction m with
      | zero => intro k _ hm; omega
      | succ m jh =>
        intro k hk hm
        rw [f_X6_ask_30, n_ifge 6 6 rfl (by omega) (by decide)]
        by_cases c2 : k = 6
        · rw [if_pos (by omega), nI_1]; exact ih (y + 1) (by omega) (by omega)
        · have h0 : wo (fun W => fitW N sg W ns) (fun W => gw N W y k) 49 = 0 := Nat.le_zero.mp (wo_le _ _ 0 (fun g => by rw [ct_none _ g 49 hz]; exact Nat.le_refl _) 49)
          rw [if_neg (by omega), show f_X6_ask_43 hr (f_X6_ask_21 hr n) (f_X6_ask_30 hr (f_X6_ask_21 hr n) m) gi_F 31 x1 (-6) 1000000 (nI y) (nI k) 0 0 = _ from m_a43 g1 g2 g3 I O (show y < 4 by omega) (show k < 6 by omega) (f_X6_ask_21 hr n) (f_X6_ask_30 hr (f_X6_ask_21 hr n) m) x1 (-6) 1000000 gi_F 0 (by omega) (by decide), m_142 hr _ _ _ _ _ _ _ (by rw [h0]; omega), if_pos (Or.inl h0)]
          exact jh (k + 1) (by omega) (by omega)
    exact st gi_F 0 (by omega) (by decide)
theorem k_ask (K : Core h c0 N ns sg np P im IM) (S : Scr h ns np) (x : Int32) : WR h c0 (fun h => f_X5_ask h 1 x) (fun h => f_X6_ask h 31 x) := by
  obtain ⟨s1, s2, s3, s4, s5, ⟨a, b, c, d, e, u, G⟩, s7⟩ := id S
  obtain ⟨ci, c1, c2, c3, c4, c5, -⟩ := cls_rd K
  have okr0 : okr N sg ns np h := ⟨⟨a, b, c, d, e, u, G⟩, K.mbk, K.msg⟩
  rcases ar_in 0 1 0 1 rfl rfl (by decide) (by decide) x with ⟨n1, n2⟩ | ⟨w, -, hw, rfl, n1, n2⟩
  · refine ⟨-2, h, ?_, go_is G, ?_, N, ns, sg, np, P, im, IM, K, S⟩
    · show f_X5_ask h 1 x = _
      unfold f_X5_ask; rw [n1]; rfl
    · show f_X6_ask h 31 x = _
      unfold f_X6_ask; rw [n2]; rfl
  have e1 : f_X5_ask h 1 (nI w) = if lg_cmp (lN (mk (fun W => fitW N sg W ns) 49)) 0 = 0 then some (-6, h) else f_X5_ask_44 gi_F h 1 (nI w) (lN (mk (fun W => fitW N sg W ns) 49)) (-6) 2147483647 0 := by
    unfold f_X5_ask
    rw [n1, Option.bind_some, if_neg i1_ne0, c5, Option.bind_some, c1, Option.bind_some, if_pos (go_is K.wor), c_fit K.bok K.iv K.sgl 28, Option.bind_some]
  have e2 : ∀ hr, f_X6_ask hr 31 (nI w) = f_X6_ask_21 hr gi_F 31 (nI w) (-6) 1000000 0 := by
    intro hr
    unfold f_X6_ask
    rw [n2, Option.bind_some, if_neg i1_ne0]
  by_cases hz : ∀ W, W < 49 → fitW N sg W ns = false
  · refine ⟨-6, h, ?_, go_is G, ?_, N, ns, sg, np, P, im, IM, K, S⟩
    · show f_X5_ask h 1 (nI w) = _
      rw [e1, if_pos]
      rw [lgc_0 (mk_63 _ (Nat.le_refl _))]
      exact mk_none 49 hz
    · show f_X6_ask h 31 (nI w) = _
      rw [e2]
      exact a_none K.iv K.sgl hz okr0 (nI w) gi_F 0 (by omega) (by decide)
  · have hp : ∃ W, W < 49 ∧ fitW N sg W ns = true := by
      apply Classical.byContradiction
      intro z
      apply hz
      intro W hW
      cases q : fitW N sg W ns with
      | false => rfl
      | true => exact absurd ⟨W, hW, q⟩ z
    have hm : mk (fun W => fitW N sg W ns) 49 ≠ 0 := by
      obtain ⟨W, hW, q⟩ := hp
      intro z
      have := mk_bit (fun W => fitW N sg W ns) 49 W
      rw [z, decide_eq_true hW, q, Nat.zero_testBit] at this
      cases this
    obtain ⟨h1, v, a1, a2, a3, a4⟩ := a_out (np := np) K.iv K.sgl hp (nI w) gi_F 0 h (-6) 2147483647 1000000 (by omega) (by decide) ⟨K.bok, K.cls, K.wor, s5⟩ (Or.inr ⟨rfl, rfl, rfl, rfl⟩)
    have G1 := G.fr a3 (by decide)
    refine ⟨v, h1, ?_, go_is G1, ?_, N, ns, sg, np, P, im, IM, K.fr a3 (by decide), ?_⟩
    · show f_X5_ask h 1 (nI w) = _
      rw [e1, if_neg]
      · exact a1
      · rw [lgc_0 (mk_63 _ (Nat.le_refl _))]
        exact hm
    · show f_X6_ask h1 31 (nI w) = _
      rw [e2]
      exact a2 h1 ⟨⟨a, b, c, d, e, u, G1⟩, K.mbk.fr a3 (by decide), K.msg.fr a3 (by decide)⟩
    · obtain ⟨⟨a', b', c', d', e', t1⟩, ⟨x', y', z', t2⟩, ⟨g1, t3⟩, ⟨g2, t4⟩, -, -, ⟨g4, t7⟩, ⟨g5, t8⟩, ⟨g6, t9⟩⟩ := S
      exact ⟨⟨a', b', c', d', e', t1.fr a3 (by decide)⟩, ⟨x', y', z', t2.fr a3 (by decide)⟩, ⟨g1, t3.fr a3 (by decide)⟩, ⟨g2, by rw [a3.2 27 (by decide)]; exact t4⟩, a4.2.2.2, ⟨a, b, c, d, e, u, G1⟩, ⟨g4, t7.fr a3 (by decide)⟩, ⟨g5, t8.fr a3 (by decide)⟩, ⟨g6, t9.fr a3 (by decide)⟩⟩
end ASK5
