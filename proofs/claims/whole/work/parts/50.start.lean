/-! THE START: both objects made -/
def kp (L a : Nat) (h h' : gi_H) : Prop := ∀ j, j < L → j ≠ a → h'[j]? = h[j]?
theorem kp.tr {L L' a : Nat} {x y z : gi_H} (h1 : kp L a x y) (h2 : kp L' a y z) (hl : L ≤ L') : kp L a x z := fun j hj ha => (h2 j (by omega) ha).trans (h1 j hj ha)
theorem kp_ap {L a : Nat} (h : gi_H) (e : va_E) (hl : L ≤ h.length) : kp L a h (h ++ [e]) := fun j hj _ => List.getElem?_append_left (by omega)
theorem kp_of {L a : Nat} {h h' : gi_H} (f : gfr [a] h h') : kp L a h h' := fun j _ ha => f.2 j (by simp [ha])
theorem kp_of2 {L a b : Nat} {h h' : gi_H} (f : gfr [b] h h') (hb : L ≤ b) : kp L a h h' := fun j hj _ => f.2 j (by simp; omega)
theorem kp_gx {L L' a : Nat} {h h' : gi_H} (x : gx L' h h') (hl : L ≤ L') : kp L a h h' := fun j hj _ => x j (by omega)
theorem go.kp {L a p c : Nat} {fs : List Value} {h h' : gi_H} (G : go h p c fs) (k : kp L a h h') (h1 : p < L) (h2 : p ≠ a) : go h' p c fs := G.keep (k p h1 h2)
theorem ga.kp {L a p n : Nat} {g : Nat → Nat} {h h' : gi_H} (G : ga h p n g) (k : kp L a h h') (h1 : p < L) (h2 : p ≠ a) : ga h' p n g := G.keep (k p h1 h2)
theorem bk.kp {L a p : Nat} {N : Nat → Nat} {ns : Nat} {sg : Nat → Nat} {h h' : gi_H} (B : bk h p N ns sg) (k : kp L a h h') (h1 : p + 9 < L) (h2 : a < p) : bk h' p N ns sg := by
  obtain ⟨b0, b1, b2, b3, b4, b5, b6, b7, b8, b9⟩ := B
  exact ⟨b0.kp k (by omega) (by omega), b1.kp k (by omega) (by omega), b2.kp k (by omega) (by omega), b3.kp k (by omega) (by omega), b4.kp k (by omega) (by omega), b5.kp k (by omega) (by omega), b6.kp k (by omega) (by omega), b7.kp k (by omega) (by omega), b8.kp k (by omega) (by omega), b9.kp k (by omega) (by omega)⟩
theorem ga_na {h : gi_H} {a n : Nat} (e : h[a]? = some (gi_na 0 n)) : ga h a n (fun _ => 0) := ⟨fun _ => 0, e, fun _ _ => rfl⟩
theorem nw_at (h : gi_H) (e : va_E) {L : Nat} (hl : h.length = L) : (h ++ [e])[L]? = some e := by
  rw [← hl, List.getElem?_append_right (Nat.le_refl _), Nat.sub_self]
  rfl
theorem nw_len (h : gi_H) (e : va_E) {L : Nat} (hl : h.length = L) : (h ++ [e]).length = L + 1 := by rw [List.length_append, hl]; rfl
theorem st5 (h : gi_H) (hl : h.length = 1) : ∃ h', f_X5_init (h ++ [.inr (5, gi_dfX5)]) 1 = some h' ∧ h'.length = 31 ∧ h'[0]? = h[0]? ∧ go h' 1 5 cls5 ∧ bk h' 2 N0 0 (fun _ => 0) ∧ go h' 12 1 (cf 0 0 0 0 0) ∧ bk h' 13 N0 0 (fun _ => 0) ∧ go h' 23 3 (pf 0) ∧ ga h' 24 60 (fun _ => 0) ∧ go h' 25 2 [.ref 26, .ref 27] ∧ ga h' 26 6 (fun _ => 0) ∧ (h'[27]? = some (gi_na 1 6)) ∧ go h' 28 4 [.ref 29] ∧ ga h' 29 109 (fun _ => 0) ∧ h'[30]? = some (gi_na 3 2) := by
  obtain ⟨h0, e0⟩ : ∃ h0, h0 = h ++ [.inr (5, gi_dfX5)] := ⟨_, rfl⟩
  have l0 : h0.length = 2 := by rw [e0]; exact nw_len h _ hl
  have G0 : go h0 1 5 gi_dfX5 := by rw [e0]; exact nw_at h _ hl
  have z0 : h0[0]? = h[0]? := by rw [e0]; exact List.getElem?_append_left (by omega)
  rw [← e0]
  unfold f_X5_init gi_new
  rw [Option.bind_some]
  obtain ⟨h2, e2, l2, x2, B2⟩ := d_init h0
  rw [l0] at e2 l2 x2 B2 ⊢
  rw [e2, Option.bind_some]
  obtain ⟨h3, e3, G3, f3⟩ := go_fp (G0.keep (x2 1 (by omega))) (.ref 2) (k := 0) (by decide)
  have l3 : h3.length = 12 := by rw [f3.1, l2]
  have B3 := B2.kp (kp_of (L := 12) f3) (by omega) (by omega)
  have z3 : h3[0]? = h[0]? := (f3.2 0 (by decide)).trans ((x2 0 (by omega)).trans z0)
  rw [e3, Option.bind_some, Option.bind_some, l3]
  obtain ⟨h4, e4⟩ : ∃ h4, h4 = h3 ++ [.inr (1, gi_dfX1)] := ⟨_, rfl⟩
  have l4 : h4.length = 13 := by rw [e4]; exact nw_len h3 _ l3
  have C4 : go h4 12 1 gi_dfX1 := by rw [e4]; exact nw_at h3 _ l3
  have k34 : kp 12 1 h3 h4 := by rw [e4]; exact kp_ap h3 _ (by omega)
  have G4 := G3.ap (e := .inr (1, gi_dfX1))
  rw [← e4] at G4
  rw [← e4]
  unfold f_X1_init gi_new
  rw [Option.bind_some]
  obtain ⟨h5, e5, l5, x5, B5⟩ := d_init h4
  rw [l4] at e5 l5 x5 B5 ⊢
  rw [e5, Option.bind_some]
  obtain ⟨h6, e6, C6, f6⟩ := go_fp (C4.keep (x5 12 (by omega))) (.ref 13) (k := 0) (by decide)
  rw [e6, Option.bind_some, Option.bind_some]
  obtain ⟨h7, e7, G7, f7⟩ := go_fp ((G4.keep (x5 1 (by omega))).fr f6 (by decide)) (.ref 12) (k := 1) (by decide)
  have l7 : h7.length = 23 := by rw [f7.1, f6.1, l5]
  have k37 : kp 12 1 h3 h7 := ((k34.tr (kp_gx (L := 12) x5 (by omega)) (by omega)).tr (kp_of2 (L := 12) f6 (by omega)) (by omega)).tr (kp_of (L := 12) f7) (by omega)
  have C7 := C6.fr f7 (by decide)
  have B7 := (B5.fr f6 (by decide)).fr f7 (by decide)
  rw [e7, Option.bind_some, Option.bind_some, l7]
  obtain ⟨h8, e8⟩ : ∃ h8, h8 = h7 ++ [.inr (3, gi_dfX3)] := ⟨_, rfl⟩
  have l8 : h8.length = 24 := by rw [e8]; exact nw_len h7 _ l7
  have D8 : go h8 23 3 gi_dfX3 := by rw [e8]; exact nw_at h7 _ l7
  have k78 : kp 23 1 h7 h8 := by rw [e8]; exact kp_ap h7 _ (by omega)
  have G8 := G7.ap (e := .inr (3, gi_dfX3))
  rw [← e8] at G8
  rw [← e8]
  unfold f_X3_init gi_new
  rw [Option.bind_some, l8]
  obtain ⟨h9, e9, D9, f9⟩ := go_fp (D8.ap (e := gi_na 0 60)) (.ref 24) (k := 1) (by decide)
  have E9 : ga h9 24 60 (fun _ => 0) := (ga_na (nw_at h8 (gi_na 0 60) l8)).fr f9 (by decide)
  rw [e9, Option.bind_some, Option.bind_some]
  obtain ⟨h10, e10, G10, f10⟩ := go_fp ((G8.ap (e := gi_na 0 60)).fr f9 (by decide)) (.ref 23) (k := 2) (by decide)
  have l10 : h10.length = 25 := by rw [f10.1, f9.1]; exact nw_len h8 _ l8
  have k710 : kp 23 1 h7 h10 := ((k78.tr (kp_ap (L := 23) h8 (gi_na 0 60) (by omega)) (by omega)).tr (kp_of2 (L := 23) f9 (by omega)) (by omega)).tr (kp_of (L := 23) f10) (by omega)
  have D10 := D9.fr f10 (by decide)
  have E10 := E9.fr f10 (by decide)
  rw [e10, Option.bind_some, Option.bind_some, l10]
  obtain ⟨h11, e11⟩ : ∃ h11, h11 = h10 ++ [.inr (2, gi_dfX2)] := ⟨_, rfl⟩
  have l11 : h11.length = 26 := by rw [e11]; exact nw_len h10 _ l10
  have H11 : go h11 25 2 gi_dfX2 := by rw [e11]; exact nw_at h10 _ l10
  have k1011 : kp 25 1 h10 h11 := by rw [e11]; exact kp_ap h10 _ (by omega)
  have G11 := G10.ap (e := .inr (2, gi_dfX2))
  rw [← e11] at G11
  rw [← e11]
  unfold f_X2_init gi_new
  rw [Option.bind_some, l11]
  obtain ⟨h12, e12, H12, f12⟩ := go_fp (H11.ap (e := gi_na 0 6)) (.ref 26) (k := 0) (by decide)
  have I12 : ga h12 26 6 (fun _ => 0) := (ga_na (nw_at h11 (gi_na 0 6) l11)).fr f12 (by decide)
  have l12 : h12.length = 27 := by rw [f12.1]; exact nw_len h11 _ l11
  have G12 := (G11.ap (e := gi_na 0 6)).fr f12 (by decide)
  have k1012 : kp 25 1 h10 h12 := (k1011.tr (kp_ap (L := 25) h11 (gi_na 0 6) (by omega)) (by omega)).tr (kp_of2 (L := 25) f12 (by omega)) (by omega)
  rw [e12, Option.bind_some, Option.bind_some, l12]
  obtain ⟨h13, e13, H13, f13⟩ := go_fp (H12.ap (e := gi_na 1 6)) (.ref 27) (k := 1) (by decide)
  have J13 : h13[27]? = some (gi_na 1 6) := (f13.2 27 (by decide)).trans (nw_at h12 _ l12)
  have I13 := (I12.ap (e := gi_na 1 6)).fr f13 (by decide)
  rw [e13, Option.bind_some, Option.bind_some]
  obtain ⟨h14, e14, G14, f14⟩ := go_fp ((G12.ap (e := gi_na 1 6)).fr f13 (by decide)) (.ref 25) (k := 3) (by decide)
  have l14 : h14.length = 28 := by rw [f14.1, f13.1]; exact nw_len h12 _ l12
  have k1014 : kp 25 1 h10 h14 := ((k1012.tr (kp_ap (L := 25) h12 (gi_na 1 6) (by omega)) (by omega)).tr (kp_of2 (L := 25) f13 (by omega)) (by omega)).tr (kp_of (L := 25) f14) (by omega)
  have H14 := H13.fr f14 (by decide)
  have I14 := I13.fr f14 (by decide)
  have J14 : h14[27]? = some (gi_na 1 6) := (f14.2 27 (by decide)).trans J13
  rw [e14, Option.bind_some, Option.bind_some, l14]
  obtain ⟨h15, e15⟩ : ∃ h15, h15 = h14 ++ [.inr (4, gi_dfX4)] := ⟨_, rfl⟩
  have l15 : h15.length = 29 := by rw [e15]; exact nw_len h14 _ l14
  have M15 : go h15 28 4 gi_dfX4 := by rw [e15]; exact nw_at h14 _ l14
  have k1415 : kp 28 1 h14 h15 := by rw [e15]; exact kp_ap h14 _ (by omega)
  have G15 := G14.ap (e := .inr (4, gi_dfX4))
  rw [← e15] at G15
  rw [← e15]
  unfold f_X4_init gi_new
  rw [Option.bind_some, l15]
  obtain ⟨h16, e16, M16, f16⟩ := go_fp (M15.ap (e := gi_na 0 109)) (.ref 29) (k := 0) (by decide)
  have O16 : ga h16 29 109 (fun _ => 0) := (ga_na (nw_at h15 (gi_na 0 109) l15)).fr f16 (by decide)
  rw [e16, Option.bind_some, Option.bind_some]
  obtain ⟨h17, e17, G17, f17⟩ := go_fp ((G15.ap (e := gi_na 0 109)).fr f16 (by decide)) (.ref 28) (k := 4) (by decide)
  have l17 : h17.length = 30 := by rw [f17.1, f16.1]; exact nw_len h15 _ l15
  have k1417 : kp 28 1 h14 h17 := ((k1415.tr (kp_ap (L := 28) h15 (gi_na 0 109) (by omega)) (by omega)).tr (kp_of2 (L := 28) f16 (by omega)) (by omega)).tr (kp_of (L := 28) f17) (by omega)
  have M17 := M16.fr f17 (by decide)
  have O17 := O16.fr f17 (by decide)
  rw [e17, Option.bind_some, Option.bind_some, l17]
  obtain ⟨h18, e18, G18, f18⟩ := go_fp (G17.ap (e := gi_na 3 2)) (.ref 30) (k := 5) (by decide)
  have l18 : h18.length = 31 := by rw [f18.1]; exact nw_len h17 _ l17
  have Q18 : h18[30]? = some (gi_na 3 2) := (f18.2 30 (by decide)).trans (nw_at h17 _ l17)
  have k1718 : kp 30 1 h17 h18 := (kp_ap (L := 30) h17 (gi_na 3 2) (by omega)).tr (kp_of (L := 30) f18) (by omega)
  rw [e18, Option.bind_some]
  have k14 := k1417.tr k1718 (by omega)
  have k10 := k1014.tr k14 (by omega)
  have k7 := k710.tr k10 (by omega)
  have k3 := k37.tr k7 (by omega)
  exact ⟨h18, rfl, l18, (k3 0 (by omega) (by omega)).trans z3, G18, B3.kp k3 (by omega) (by omega), C7.kp k7 (by omega) (by omega), B7.kp k7 (by omega) (by omega), D10.kp k10 (by omega) (by omega), E10.kp k10 (by omega) (by omega), H14.kp k14 (by omega) (by omega), I14.kp k14 (by omega) (by omega), (k14 27 (by omega) (by omega)).trans J14, M17.kp k1718 (by omega) (by omega), O17.kp k1718 (by omega) (by omega), Q18⟩
theorem m_in69 {fs : List Value} (e0 : fs[0]? = some (.ref 32)) : ∀ (n j : Nat) (h : gi_H) (g : Nat → Nat), j ≤ 6 → 6 - j < n → go h 31 6 fs → ga h 32 63 g → (∀ i, i < j → g i = 1) → (∀ i, j ≤ i → g i = 0) → ∃ h' g', f_X6_init_69 n h 31 (nI j) = f_X6_init_90 gi_F h' 31 0 ∧ ga h' 32 63 g' ∧ (∀ i, i < 6 → g' i = 1) ∧ (∀ i, 6 ≤ i → g' i = 0) ∧ gfr [32] h h' := by
  intro n
  induction n with
  | zero => intro j h g _ hn; omega
  | succ n ih =>
    intro j h g hj hn G A ee e2
    rw [f_X6_init_69, n_ifge 6 6 rfl (by omega) (by decide)]
    rcases Nat.lt_or_ge j 6 with hlt | hge
    · obtain ⟨h1, w1, A1, f1⟩ := ga_wr A (i := j) (by omega) (by decide) 1
      rw [if_neg (by omega), go_fR G e0, Option.bind_some, show gi_pi h 32 0 (nI j) 1 = some h1 from w1, Option.bind_some, nI_1]
      obtain ⟨h2, g2, a1, a2, a3, a4, a5⟩ := ih (j + 1) h1 _ (by omega) (by omega) (G.fr f1 (by decide)) A1 (fun i hi => by
        by_cases q : i = j
        · rw [q, gu_self]
        · rw [gu_ne _ _ q]; exact ee i (by omega)) (fun i hi => by rw [gu_ne _ _ (by omega)]; exact e2 i (by omega))
      exact ⟨h2, g2, a1, a2, a3, a4, f1.trans a5⟩
    · rw [if_pos (by omega)]
      exact ⟨h, g, rfl, A, fun i hi => ee i (by omega), fun i hi => e2 i (by omega), gfr.refl _ _⟩
theorem m_in90 {fs : List Value} (e0 : fs[0]? = some (.ref 32)) : ∀ (n j : Nat) (h : gi_H) (g : Nat → Nat), j ≤ 4 → 4 - j < n → go h 31 6 fs → ga h 32 63 g → (∀ i, i < 6 → g i = 1) → (∀ i, i < j → g (6 + i) = 100) → (∀ i, 6 + j ≤ i → g i = 0) → ∃ h', f_X6_init_90 n h 31 (nI j) = some h' ∧ ga h' 32 63 N0 ∧ gfr [32] h h' := by
  intro n
  induction n with
  | zero => intro j h g _ hn; omega
  | succ n ih =>
    intro j h g hj hn G A ea ee e2
    rw [f_X6_init_90, n_ifge 4 4 rfl (by omega) (by decide)]
    rcases Nat.lt_or_ge j 4 with hlt | hge
    · obtain ⟨h1, w1, A1, f1⟩ := ga_wr A (i := 6 + j) (by omega) (by decide) 100
      rw [if_neg (by omega), go_fR G e0, Option.bind_some, show (6 : Int32) + nI j = nI (6 + j) from nI_add 6 j, show gi_pi h 32 0 (nI (6 + j)) 100 = some h1 from w1, Option.bind_some, nI_1]
      obtain ⟨h2, a1, a2, a5⟩ := ih (j + 1) h1 _ (by omega) (by omega) (G.fr f1 (by decide)) A1 (fun i hi => by rw [gu_ne _ _ (by omega)]; exact ea i hi) (fun i hi => by
        by_cases q : i = j
        · rw [q, gu_self]
        · rw [gu_ne _ _ (by omega)]; exact ee i (by omega)) (fun i hi => by rw [gu_ne _ _ (by omega)]; exact e2 i (by omega))
      exact ⟨h2, a1, a2, f1.trans a5⟩
    · obtain ⟨h1, w1, A1, f1⟩ := ga_wr A (i := 10) (by omega) (by decide) 1000
      rw [if_pos (by omega)]
      unfold f_X6_init_112
      rw [go_fR G e0, Option.bind_some, show gi_pi h 32 0 10 1000 = some h1 from w1, Option.bind_some]
      refine ⟨h1, rfl, A1.cong (fun i hi => ?_), f1⟩
      unfold N0
      by_cases c1 : i < 6
      · rw [gu_ne _ _ (by omega), if_pos c1]; exact ea i c1
      · rw [if_neg c1]
        by_cases c2 : i < 10
        · rw [gu_ne _ _ (by omega), if_pos c2, show i = 6 + (i - 6) by omega]; exact ee (i - 6) (by omega)
        · rw [if_neg c2]
          by_cases c3 : i = 10
          · rw [c3, gu_self, if_pos rfl]
          · rw [gu_ne _ _ c3, if_neg c3]; exact e2 i (by omega)
theorem st6 (h : gi_H) (hl : h.length = 31) : ∃ h', f_X6_init (h ++ [.inr (6, gi_dfX6)]) 31 = some h' ∧ h'.length = 40 ∧ (∀ j, j < 31 → h'[j]? = h[j]?) ∧ go h' 31 6 (mf 0 0 0 false 0 0 0 0) ∧ ga h' 32 63 N0 ∧ ga h' 33 63 (fun _ => 0) ∧ ga h' 34 24 (fun _ => 0) ∧ ga h' 35 60 (fun _ => 0) ∧ ga h' 36 24 (fun _ => 0) ∧ ga h' 37 4 (fun _ => 0) ∧ ga h' 38 200 (fun _ => 0) ∧ h'[39]? = some (gi_na 2 2) := by
  obtain ⟨h0, e0⟩ : ∃ h0, h0 = h ++ [.inr (6, gi_dfX6)] := ⟨_, rfl⟩
  have l0 : h0.length = 32 := by rw [e0]; exact nw_len h _ hl
  have G0 : go h0 31 6 gi_dfX6 := by rw [e0]; exact nw_at h _ hl
  have z0 : ∀ j, j < 31 → h0[j]? = h[j]? := fun j hj => by rw [e0]; exact List.getElem?_append_left (by omega)
  rw [← e0]
  unfold f_X6_init gi_new
  rw [Option.bind_some, l0]
  obtain ⟨h1, e1, G1, f1⟩ := go_fp (G0.ap (e := gi_na 0 63)) (.ref 32) (k := 0) (by decide)
  have l1 : h1.length = 33 := by rw [f1.1]; exact nw_len h0 _ l0
  have n1 : h1[32]? = some (gi_na 0 63) := (f1.2 32 (by decide)).trans (nw_at h0 _ l0)
  have k1 : kp 32 31 h0 h1 := (kp_ap (L := 32) h0 (gi_na 0 63) (by omega)).tr (kp_of (L := 32) f1) (by omega)
  rw [e1, Option.bind_some]
  rw [Option.bind_some, l1]
  obtain ⟨h2, e2, G2, f2⟩ := go_fp (G1.ap (e := gi_na 0 63)) (.ref 33) (k := 1) (by decide)
  have l2 : h2.length = 34 := by rw [f2.1]; exact nw_len h1 _ l1
  have n2 : h2[33]? = some (gi_na 0 63) := (f2.2 33 (by decide)).trans (nw_at h1 _ l1)
  have k2 : kp 33 31 h1 h2 := (kp_ap (L := 33) h1 (gi_na 0 63) (by omega)).tr (kp_of (L := 33) f2) (by omega)
  rw [e2, Option.bind_some]
  rw [Option.bind_some, l2]
  obtain ⟨h3, e3, G3, f3⟩ := go_fp (G2.ap (e := gi_na 0 24)) (.ref 34) (k := 3) (by decide)
  have l3 : h3.length = 35 := by rw [f3.1]; exact nw_len h2 _ l2
  have n3 : h3[34]? = some (gi_na 0 24) := (f3.2 34 (by decide)).trans (nw_at h2 _ l2)
  have k3 : kp 34 31 h2 h3 := (kp_ap (L := 34) h2 (gi_na 0 24) (by omega)).tr (kp_of (L := 34) f3) (by omega)
  rw [e3, Option.bind_some]
  rw [Option.bind_some, l3]
  obtain ⟨h4, e4, G4, f4⟩ := go_fp (G3.ap (e := gi_na 0 60)) (.ref 35) (k := 5) (by decide)
  have l4 : h4.length = 36 := by rw [f4.1]; exact nw_len h3 _ l3
  have n4 : h4[35]? = some (gi_na 0 60) := (f4.2 35 (by decide)).trans (nw_at h3 _ l3)
  have k4 : kp 35 31 h3 h4 := (kp_ap (L := 35) h3 (gi_na 0 60) (by omega)).tr (kp_of (L := 35) f4) (by omega)
  rw [e4, Option.bind_some]
  rw [Option.bind_some, l4]
  obtain ⟨h5, e5, G5, f5⟩ := go_fp (G4.ap (e := gi_na 0 24)) (.ref 36) (k := 12) (by decide)
  have l5 : h5.length = 37 := by rw [f5.1]; exact nw_len h4 _ l4
  have n5 : h5[36]? = some (gi_na 0 24) := (f5.2 36 (by decide)).trans (nw_at h4 _ l4)
  have k5 : kp 36 31 h4 h5 := (kp_ap (L := 36) h4 (gi_na 0 24) (by omega)).tr (kp_of (L := 36) f5) (by omega)
  rw [e5, Option.bind_some]
  rw [Option.bind_some, l5]
  obtain ⟨h6, e6, G6, f6⟩ := go_fp (G5.ap (e := gi_na 0 4)) (.ref 37) (k := 13) (by decide)
  have l6 : h6.length = 38 := by rw [f6.1]; exact nw_len h5 _ l5
  have n6 : h6[37]? = some (gi_na 0 4) := (f6.2 37 (by decide)).trans (nw_at h5 _ l5)
  have k6 : kp 37 31 h5 h6 := (kp_ap (L := 37) h5 (gi_na 0 4) (by omega)).tr (kp_of (L := 37) f6) (by omega)
  rw [e6, Option.bind_some]
  rw [Option.bind_some, l6]
  obtain ⟨h7, e7, G7, f7⟩ := go_fp (G6.ap (e := gi_na 0 200)) (.ref 38) (k := 14) (by decide)
  have l7 : h7.length = 39 := by rw [f7.1]; exact nw_len h6 _ l6
  have n7 : h7[38]? = some (gi_na 0 200) := (f7.2 38 (by decide)).trans (nw_at h6 _ l6)
  have k7 : kp 38 31 h6 h7 := (kp_ap (L := 38) h6 (gi_na 0 200) (by omega)).tr (kp_of (L := 38) f7) (by omega)
  rw [e7, Option.bind_some]
  rw [Option.bind_some, l7]
  obtain ⟨h8, e8, G8, f8⟩ := go_fp (G7.ap (e := gi_na 2 2)) (.ref 39) (k := 15) (by decide)
  have l8 : h8.length = 40 := by rw [f8.1]; exact nw_len h7 _ l7
  have n8 : h8[39]? = some (gi_na 2 2) := (f8.2 39 (by decide)).trans (nw_at h7 _ l7)
  have k8 : kp 39 31 h7 h8 := (kp_ap (L := 39) h7 (gi_na 2 2) (by omega)).tr (kp_of (L := 39) f8) (by omega)
  rw [e8, Option.bind_some]
  have t7 := k8
  have t6 := k7.tr t7 (by omega)
  have t5 := k6.tr t6 (by omega)
  have t4 := k5.tr t5 (by omega)
  have t3 := k4.tr t4 (by omega)
  have t2 := k3.tr t3 (by omega)
  have t1 := k2.tr t2 (by omega)
  have t0 := k1.tr t1 (by omega)
  have G9 : go h8 31 6 (mf 0 0 0 false 0 0 0 0) := G8
  obtain ⟨h9, g9, a1, a2, a3, a4, a5⟩ := m_in69 (fs := mf 0 0 0 false 0 0 0 0) rfl gi_F 0 h8 (fun _ => 0) (by omega) (by decide) G9 ((ga_na n1).kp t1 (by omega) (by omega)) (fun i hi => by omega) (fun _ _ => rfl)
  obtain ⟨h10, b1, b2, b3⟩ := m_in90 (fs := mf 0 0 0 false 0 0 0 0) rfl gi_F 0 h9 g9 (by omega) (by decide) (G9.fr a5 (by decide)) a2 a3 (fun i hi => by omega) a4
  have f := a5.trans b3
  refine ⟨h10, a1.trans b1, by rw [f.1, l8], fun j hj => ?_, G9.fr f (by decide), b2, ((ga_na n2).kp t2 (by omega) (by omega)).fr f (by decide), ((ga_na n3).kp t3 (by omega) (by omega)).fr f (by decide), ((ga_na n4).kp t4 (by omega) (by omega)).fr f (by decide), ((ga_na n5).kp t5 (by omega) (by omega)).fr f (by decide), ((ga_na n6).kp t6 (by omega) (by omega)).fr f (by decide), ((ga_na n7).kp t7 (by omega) (by omega)).fr f (by decide), (f.2 39 (by decide)).trans n8⟩
  rw [f.2 j (by simp; omega), t0 j (by omega) (by omega), z0 j hj]
theorem inv_N0 : inv N0 := by
  refine ⟨fun i hi => ?_, fun i hi => ?_, by decide, by decide, by decide, by decide, by decide, fun p hp => ⟨?_, ?_, ⟨0, by omega, ?_⟩, ?_⟩, fun p hp z => ?_⟩
  · unfold N0; rw [if_pos hi]; omega
  · unfold N0; rw [if_neg (by omega), if_pos (by omega)]; omega
  · unfold N0; rw [if_neg (by omega), if_neg (by omega), if_neg (by omega)]; omega
  · unfold N0; rw [if_neg (by omega), if_neg (by omega), if_neg (by omega)]; omega
  · unfold N0; rw [if_neg (by omega), if_neg (by omega), if_neg (by omega)]
  · unfold N0; rw [if_neg (by omega), if_neg (by omega), if_neg (by omega)]; omega
  · rw [show N0 14 = 0 from rfl, Nat.zero_testBit] at z
    cases z
theorem st_SS (h : gi_H) (c0 : va_E) (hl : h.length = 1) (h0 : h[0]? = some c0) : ∃ h1 h2, f_X5_init (h ++ [.inr (5, gi_dfX5)]) 1 = some h1 ∧ h1.length = 31 ∧ f_X6_init (h1 ++ [.inr (6, gi_dfX6)]) 31 = some h2 ∧ SS h2 c0 := by
  obtain ⟨h1, a0, a1, a2, a3, a4, a5, a6, a7, a8, a9, a10, a11, a12, a13, a14⟩ := st5 h hl
  obtain ⟨h2, b0, b1, b2, b3, b4, b5, b6, b7, b8, b9, b10, b11⟩ := st6 h1 a1
  have k : kp 31 31 h1 h2 := fun j hj _ => b2 j hj
  have kb : ∀ {p : Nat} {N : Nat → Nat} {ns : Nat} {sg : Nat → Nat}, bk h1 p N ns sg → p + 9 < 31 → bk h2 p N ns sg := by
    intro p N ns sg ⟨c0, c1, c2, c3, c4, c5, c6, c7, c8, c9⟩ hp
    exact ⟨c0.keep (b2 _ (by omega)), c1.keep (b2 _ (by omega)), c2.keep (b2 _ (by omega)), c3.keep (b2 _ (by omega)), c4.keep (b2 _ (by omega)), c5.keep (b2 _ (by omega)), c6.keep (b2 _ (by omega)), c7.keep (b2 _ (by omega)), c8.keep (b2 _ (by omega)), c9.keep (b2 _ (by omega))⟩
  refine ⟨h1, h2, a0, a1, b0, N0, 0, fun _ => 0, 0, fun _ => 0, fun _ => none, fun _ => 0, ?_, ?_⟩
  · refine ⟨b1, (b2 0 (by omega)).trans (a2.trans h0), a3.keep (b2 _ (by omega)), kb a4 (by omega), inv_N0, ⟨by omega, fun i _ => ⟨(by decide : (0 : Nat) < 4), (by decide : (0 : Nat) < 6), (by decide : (0 : Nat) ≤ 999)⟩⟩, a7.keep (b2 _ (by omega)), a8.keep (b2 _ (by omega)), fun i _ => (by decide : (0 : Nat) < 127), by omega, a9.keep (b2 _ (by omega)), a12.keep (b2 _ (by omega)), ⟨fun _ => none, (b2 30 (by omega)).trans a14, fun i _ => rfl⟩, b4, b6, b7, b10, ⟨fun _ => 0, b11, fun i _ => rfl⟩, ?_, ?_⟩
    · intro i _ k N' ns' sg' z; cases z
    · intro a b z; cases z
  · exact ⟨⟨0, 0, 0, 0, 0, a5.keep (b2 _ (by omega))⟩, ⟨N0, 0, fun _ => 0, kb a6 (by omega)⟩, ⟨_, a10.keep (b2 _ (by omega))⟩, ⟨_, (b2 27 (by omega)).trans a11⟩, ⟨_, a13.keep (b2 _ (by omega))⟩, ⟨0, false, 0, 0, 0, 0, b3⟩, ⟨_, b5⟩, ⟨_, b8⟩, ⟨_, b9⟩⟩
