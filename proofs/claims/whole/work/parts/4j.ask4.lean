/-! ASK, 4: the class's tally -/
theorem gnW_10 {N : Nat → Nat} (I : inv N) (b k o w : Nat) : ∀ n, n ≤ 12 → ∃ c, c ≤ 9 * n ∧ gnW N b k o w n = 10 * c := by
  intro n
  induction n with
  | zero => intro _; exact ⟨0, Nat.le_refl _, rfl⟩
  | succ n ih =>
    intro hn
    obtain ⟨c, h1, h2⟩ := ih (by omega)
    obtain ⟨c', h3, h4⟩ := (I.2.2.2.2.2.2.2.1 n (by omega)).2.2.1
    have hx : ∀ (p : Prop) [Decidable p], ∃ c'', c'' ≤ 9 ∧ (if p then N (17 + 4 * n) else 0) = 10 * c'' := by
      intro p _
      split
      · exact ⟨c', h3, h4⟩
      · exact ⟨0, by omega, rfl⟩
    obtain ⟨d, h5, h6⟩ := hx ((N 14).testBit n = true ∧ N (16 + 4 * n) = k ∧ (if n = o then w else N (15 + 4 * n)) = b)
    refine ⟨c + d, by omega, ?_⟩
    show gnW N b k o w n + _ = _
    rw [h2, h6]
    omega
theorem gw_10 {N : Nat → Nat} (I : inv N) (W b k : Nat) : ∃ c, c ≤ 108 ∧ gw N W b k = 10 * c := by
  unfold gw
  split
  · exact gnW_10 I b k 99 0 12 (Nat.le_refl _)
  · exact gnW_10 I b k _ _ 12 (Nat.le_refl _)
theorem ct_lt (f : Nat → Bool) (v : Nat → Nat) (g : Nat) : ∀ n, ctW f v g n ≤ n := by
  intro n
  induction n with
  | zero => exact Nat.le_refl _
  | succ n ih =>
    show ctW f v g n + _ ≤ _
    split <;> omega
theorem ms_lt (f : Nat → Bool) (v : Nat → Nat) : ∀ n, ms f v n ≤ n := by
  intro n
  induction n with
  | zero => exact Nat.le_refl _
  | succ n ih =>
    have := ct_lt f v (v n) (n + 1)
    unfold ms
    split
    · exact Nat.max_le.mpr ⟨by omega, this⟩
    · omega
theorem j_max {a b : Nat} (ha : a < 2 ^ 31) (hb : b < 2 ^ 31) : f_J9_max_7cf53 (nI a) (nI b) = some (nI (max a b)) := by
  unfold f_J9_max_7cf53
  rw [n_iflt (nI b) b rfl ha hb]
  by_cases c : a < b
  · rw [if_pos c, Nat.max_eq_right (by omega)]
  · rw [if_neg c, Nat.max_eq_left (by omega)]
section ASK4
variable {h : gi_H} {N : Nat → Nat} {ns : Nat} {sg : Nat → Nat}
theorem c_ml3 (x2 : Int64) (x4 x5 : Int32) : ∀ n i (h : gi_H) (g : Nat → Nat), i ≤ 109 → 109 - i < n → go h 28 4 [.ref 29] → ga h 29 109 g → (∀ j, j < i → g j = 0) → ∃ h' g', f_X4_mostLeft_3 n h 28 2 x2 x4 x5 (nI i) = f_X4_mostLeft_27 h' 28 2 x2 x4 x5 ∧ ga h' 29 109 g' ∧ (∀ j, j < 109 → g' j = 0) ∧ gfr [29] h h' := by
  intro n
  induction n with
  | zero => intro i h g _ hn; omega
  | succ n ih =>
    intro i h g hi hn G A hz
    unfold f_X4_mostLeft_3
    rw [go_fR G rfl, Option.bind_some, ga_an A, Option.bind_some, show Int32.ofNat 109 = nI 109 from rfl, n_ifge (nI 109) 109 rfl (by omega) (by decide)]
    by_cases c1 : i = 109
    · rw [if_pos (by omega)]
      exact ⟨h, g, rfl, A, fun j hj => hz j (by omega), gfr.refl _ _⟩
    · obtain ⟨h1, e1, A1, f1⟩ := ga_wr A (i := i) (by omega) (by decide) 0
      rw [if_neg (by omega), Option.bind_some, show gi_pi h 29 0 (nI i) 0 = some h1 from e1, Option.bind_some, nI_1]
      obtain ⟨h', g', e, a, b, f⟩ := ih (i + 1) h1 (gu g i 0) (by omega) (by omega) (G.keep (f1.2 28 (by decide))) A1 (fun j hj => by
        by_cases c2 : j = i
        · rw [c2, gu_self]
        · rw [gu_ne _ _ c2]; exact hz j (by omega))
      exact ⟨h', g', e, a, b, f1.trans f⟩
theorem c_ml43 (I : inv N) {y k : Nat} (hy : y < 4) (hk : k < 6) (f : Nat → Bool) (hf : ∀ W, f W = true → wd N W = true) : ∀ n W (h : gi_H) (g : Nat → Nat), W ≤ 49 → 49 - W < n → bk h 2 N ns sg → go h 28 4 [.ref 29] → ga h 29 109 g → (∀ j, j < 109 → g j = ctW f (fun W => gw N W y k) (10 * j) W) → ∃ h', f_X4_mostLeft_43 n h 28 2 (lN (mk f 49)) (nI y) (nI k) (nI (gnW N y k 99 0 12)) (nI (ms f (fun W => gw N W y k) W)) (nI W) = some (nI (ms f (fun W => gw N W y k) 49), h') ∧ gfr [29] h h' ∧ ∃ g', ga h' 29 109 g' := by
  intro n
  induction n with
  | zero => intro W h g _ hn; omega
  | succ n ih =>
    intro W h g hW hn B G A hg
    have hm := mk_63 f (Nat.le_refl 49)
    unfold f_X4_mostLeft_43
    rw [n_ifge 49 49 rfl (by omega) (by decide)]
    by_cases c1 : W = 49
    · rw [if_pos (by omega), c1]
      exact ⟨h, rfl, gfr.refl _ _, g, A⟩
    have hs : ms f (fun W => gw N W y k) (W + 1) = if f W then max (ms f (fun W => gw N W y k) W) (ctW f (fun W => gw N W y k) (gw N W y k) (W + 1)) else ms f (fun W => gw N W y k) W := rfl
    have hc : ∀ v, ctW f (fun W => gw N W y k) v (W + 1) = ctW f (fun W => gw N W y k) v W + if f W = true ∧ gw N W y k = v then 1 else 0 := fun v => rfl
    rw [if_neg (by omega), l_ifb hm (by omega), mk_bit, decide_eq_true (show W < 49 by omega), Bool.true_and, nI_1]
    by_cases c2 : f W = true
    · obtain ⟨m, e1, e2⟩ := c_mor B I (b := y) (k := k) (by omega) (by omega) (show W < 49 by omega) (hf W c2)
      obtain ⟨c, hc1, hc2⟩ := gw_10 I W y k
      have hl1 := ms_lt f (fun W => gw N W y k) W
      have hl2 := ct_lt f (fun W => gw N W y k) (10 * c) W
      rw [if_pos c2] at hs
      rw [if_pos c2, e1, Option.bind_some, go_fR G rfl, Option.bind_some, ga_an A, Option.bind_some, e2, hc2, show nI (10 * c) / 10 = nI c by rw [show nI (10 * c) / 10 = nI (10 * c / 10) from pk_div (a := 10 * c) (d := 10) (by omega) (by decide) (by decide)]; congr 1; omega]
      obtain ⟨h1, w1, A1, f1⟩ := ga_wr A (i := c) (by omega) (by decide) (g c + 1)
      rw [show Int32.ofNat 109 - 1 = 108 from rfl, in_nI 0 108 (l := 0) (u := 108) (k := c) rfl rfl (by decide) (by omega) (by omega), Option.bind_some, if_neg i1_ne0, Option.bind_some, ga_rd A (by omega) (by decide), Option.bind_some, nI_1, w1, Option.bind_some, go_fR (G.keep (f1.2 28 (by decide))) rfl, Option.bind_some, ga_rd A1 (by omega) (by decide), Option.bind_some, gu_self, hg c (by omega)]
      rw [hc2, hc (10 * c), if_pos ⟨c2, hc2⟩] at hs
      rw [j_max (by omega) (by omega), Option.bind_some, ← hs]
      obtain ⟨h', e', f', a'⟩ := ih (W + 1) h1 (gu g c (g c + 1)) (by omega) (by omega) (B.fr f1 (by decide)) (G.keep (f1.2 28 (by decide))) A1 (fun j hj => by
        rw [hc, hc2]
        by_cases c3 : j = c
        · rw [c3, gu_self, if_pos ⟨c2, rfl⟩, hg c (by omega)]
        · rw [gu_ne _ _ c3, if_neg (fun z => c3 (by omega)), hg j hj]; rfl)
      exact ⟨h', e', f1.trans f', a'⟩
    · rw [if_neg c2] at hs
      rw [if_neg c2, ← hs]
      obtain ⟨h', e', f', a'⟩ := ih (W + 1) h g (by omega) (by omega) B G A (fun j hj => by
        rw [hc, if_neg (fun z => c2 z.1), hg j hj]; rfl)
      exact ⟨h', e', f', a'⟩
theorem c_most (B : bk h 2 N ns sg) (G : go h 28 4 [.ref 29]) (A : ∃ g, ga h 29 109 g) (I : inv N) {y k : Nat} (hy : y < 4) (hk : k < 6) (f : Nat → Bool) (hf : ∀ W, f W = true → wd N W = true) : ∃ h', f_X4_mostLeft h 28 2 (lN (mk f 49)) (nI y) (nI k) = some (nI (ms f (fun W => gw N W y k) 49), h') ∧ gfr [29] h h' ∧ ∃ g', ga h' 29 109 g' := by
  obtain ⟨g, A⟩ := A
  obtain ⟨h1, g1, e1, A1, z1, f1⟩ := c_ml3 (lN (mk f 49)) (nI y) (nI k) gi_F 0 h g (by omega) (by decide) G A (fun j hj => by omega)
  have B1 := B.fr f1 (by decide)
  obtain ⟨h2, e2, f2, a2⟩ := c_ml43 (ns := ns) (sg := sg) I hy hk f hf gi_F 0 h1 g1 (by omega) (by decide) B1 (G.keep (f1.2 28 (by decide))) A1 (fun j hj => z1 j hj)
  refine ⟨h2, ?_, f1.trans f2, a2⟩
  unfold f_X4_mostLeft
  rw [show f_X4_mostLeft_3 gi_F h 28 2 (lN (mk f 49)) (nI y) (nI k) 0 = _ from e1]
  unfold f_X4_mostLeft_27
  rw [if_pos (bk_rd B1).1, d_gains B1 I (by omega) (by omega), Option.bind_some]
  exact e2
end ASK4
