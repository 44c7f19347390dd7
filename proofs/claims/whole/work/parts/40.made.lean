/-! A BOOK IS MADE -/
theorem ap_lt {h : gi_H} {a : Nat} {e x : va_E} (H : h[a]? = some x) : (h ++ [e])[a]? = some x := by
  have := (List.getElem?_eq_some_iff.mp H).1
  rw [List.getElem?_append_left this]
  exact H
theorem go.ap {h : gi_H} {a c : Nat} {fs : List Value} {e : va_E} (G : go h a c fs) : go (h ++ [e]) a c fs := ap_lt G
theorem ga.ap {h : gi_H} {a n : Nat} {g : Nat → Nat} {e : va_E} (A : ga h a n g) : ga (h ++ [e]) a n g := by
  obtain ⟨f, e1, e2⟩ := A
  exact ⟨f, ap_lt e1, e2⟩
theorem ga.nw (h : gi_H) (n : Nat) : ga (h ++ [gi_na 0 n]) h.length n (fun _ => 0) := ⟨fun _ => 0, by rw [List.getElem?_append_right (Nat.le_refl _), Nat.sub_self]; rfl, fun _ _ => rfl⟩
theorem go.nw (h : gi_H) (c : Nat) (fs : List Value) : go (h ++ [.inr (c, fs)]) h.length c fs := by
  unfold go
  rw [List.getElem?_append_right (Nat.le_refl _), Nat.sub_self]
  rfl
/-- what stood before stands as it stood -/
def gx (L : Nat) (h h' : gi_H) : Prop := ∀ j, j < L → h'[j]? = h[j]?
theorem gx.tr {L : Nat} {a b c : gi_H} (h1 : gx L a b) (h2 : gx L b c) : gx L a c := fun j hj => (h2 j hj).trans (h1 j hj)
theorem gx.ap {L : Nat} (h : gi_H) (e : va_E) (hL : L ≤ h.length) : gx L h (h ++ [e]) := fun j hj => List.getElem?_append_left (by omega)
theorem gx.of {L a : Nat} {h h' : gi_H} (f : gfr [a] h h') (ha : L ≤ a) : gx L h h' := fun j hj => f.2 j (by simp; omega)
def N0 : Nat → Nat := fun i => if i < 6 then 1 else if i < 10 then 100 else if i = 10 then 1000 else 0
theorem d_in26 {L : Nat} {fs : List Value} (e6 : fs[6]? = some (.ref (L + 1))) : ∀ (n j : Nat) (h : gi_H) (g : Nat → Nat), j ≤ 6 → 6 - j < n → go h L 0 fs → ga h (L + 1) 6 g → (∀ i, i < j → g i = 1) → ∃ h', f_X0_init_26 n h L (nI j) = f_X0_init_45 h' L ∧ ga h' (L + 1) 6 (fun _ => 1) ∧ gfr [L + 1] h h' := by
  intro n
  induction n with
  | zero => intro j h g _ hn; omega
  | succ n ih =>
    intro j h g hj hn G A ee
    unfold f_X0_init_26
    rw [n_ifge 6 6 rfl (by omega) (by decide)]
    rcases Nat.lt_or_ge j 6 with hlt | hge
    · rw [if_neg (by omega), go_fR G e6]
      simp only [Option.bind_some]
      obtain ⟨h1, e1, A1, f1⟩ := ga_wr A hlt (by decide) 1
      rw [show gi_pi h (L + 1) 0 (nI j) 1 = some h1 from e1]
      simp only [Option.bind_some]
      rw [nI_1]
      obtain ⟨h2, e2, A2, f2⟩ := ih (j + 1) h1 _ (by omega) (by omega) (G.fr f1 (by simp)) A1 (fun i hi => by
        by_cases q : i = j
        · rw [q, gu_self]
        · rw [gu_ne _ _ q]; exact ee i (by omega))
      exact ⟨h2, e2, A2, f1.trans f2⟩
    · rw [if_pos (by omega)]
      exact ⟨h, rfl, A.cong (fun i hi => ee i (by omega)), gfr.refl _ _⟩
theorem d_in54 {L : Nat} {fs : List Value} (e7 : fs[7]? = some (.ref (L + 2))) : ∀ (n j : Nat) (h : gi_H) (g : Nat → Nat), j ≤ 4 → 4 - j < n → go h L 0 fs → ga h (L + 2) 4 g → (∀ i, i < j → g i = 100) → ∃ h', f_X0_init_54 n h L (nI j) = f_X0_init_73 h' L ∧ ga h' (L + 2) 4 (fun _ => 100) ∧ gfr [L + 2] h h' := by
  intro n
  induction n with
  | zero => intro j h g _ hn; omega
  | succ n ih =>
    intro j h g hj hn G A ee
    unfold f_X0_init_54
    rw [n_ifge 4 4 rfl (by omega) (by decide)]
    rcases Nat.lt_or_ge j 4 with hlt | hge
    · rw [if_neg (by omega), go_fR G e7]
      simp only [Option.bind_some]
      obtain ⟨h1, e1, A1, f1⟩ := ga_wr A hlt (by decide) 100
      rw [show gi_pi h (L + 2) 0 (nI j) 100 = some h1 from e1]
      simp only [Option.bind_some]
      rw [nI_1]
      obtain ⟨h2, e2, A2, f2⟩ := ih (j + 1) h1 _ (by omega) (by omega) (G.fr f1 (by simp)) A1 (fun i hi => by
        by_cases q : i = j
        · rw [q, gu_self]
        · rw [gu_ne _ _ q]; exact ee i (by omega))
      exact ⟨h2, e2, A2, f1.trans f2⟩
    · rw [if_pos (by omega)]
      exact ⟨h, rfl, A.cong (fun i hi => ee i (by omega)), gfr.refl _ _⟩

theorem d_init (h : gi_H) : ∃ h', f_X0_init (h ++ [.inr (0, gi_dfX0)]) h.length = some h' ∧ h'.length = h.length + 10 ∧ gx h.length h h' ∧ bk h' h.length N0 0 (fun _ => 0) := by
  have G0 := go.nw h 0 gi_dfX0
  have x0 : gx h.length h (h ++ [.inr (0, gi_dfX0)]) := gx.ap h _ (Nat.le_refl _)
  unfold f_X0_init
  obtain ⟨h1, e1, G1, f1⟩ := go_fp G0 (.int 0) (k := 0) (by simp [gi_dfX0])
  rw [e1]
  simp only [Option.bind_some]
  obtain ⟨h2, e2, G2, f2⟩ := go_fp G1 (.int 1000) (k := 1) (by simp [gi_dfX0])
  rw [e2]
  simp only [Option.bind_some]
  have l2 : h2.length = h.length + 1 := by rw [f2.1, f1.1, List.length_append]; rfl
  have x2 := (x0.tr (gx.of f1 (Nat.le_refl _))).tr (gx.of f2 (Nat.le_refl _))
  unfold gi_new
  simp only [Option.bind_some]
  have A1 := ga.nw h2 6
  rw [l2] at A1 ⊢
  have x3 := x2.tr (gx.ap h2 (gi_na 0 6) (by omega))
  obtain ⟨h3, e3, G3, f3⟩ := go_fp (G2.ap (e := gi_na 0 6)) (.ref (h.length + 1)) (k := 6) (by simp [gi_dfX0])
  rw [e3]
  simp only [Option.bind_some]
  have x3 := x3.tr (gx.of f3 (Nat.le_refl _))
  have l3 : h3.length = h.length + 2 := by rw [f3.1, List.length_append, l2]; rfl
  obtain ⟨h4, e4, A4, f4⟩ := d_in26 (L := h.length) rfl gi_F 0 h3 _ (by omega) (by decide) G3 (A1.fr f3 (by simp)) (fun i hi => by omega)
  rw [show f_X0_init_26 gi_F h3 h.length 0 = f_X0_init_45 h4 h.length from e4]
  have x4 := x3.tr (gx.of f4 (by omega))
  have l4 : h4.length = h.length + 2 := by rw [f4.1, l3]
  have G4 := G3.fr f4 (by simp)
  unfold f_X0_init_45 gi_new
  simp only [Option.bind_some]
  have B1 := ga.nw h4 4
  rw [l4] at B1 ⊢
  obtain ⟨h5, e5, G5, f5⟩ := go_fp (G4.ap (e := gi_na 0 4)) (.ref (h.length + 2)) (k := 7) (by simp [gi_dfX0])
  rw [e5]
  simp only [Option.bind_some]
  have x5 := (x4.tr (gx.ap h4 (gi_na 0 4) (by omega))).tr (gx.of f5 (Nat.le_refl _))
  have l5 : h5.length = h.length + 3 := by rw [f5.1, List.length_append, l4]; rfl
  have A5 := (A4.ap (e := gi_na 0 4)).fr f5 (by simp)
  obtain ⟨h6, e6, B6, f6⟩ := d_in54 (L := h.length) rfl gi_F 0 h5 _ (by omega) (by decide) G5 (B1.fr f5 (by simp)) (fun i hi => by omega)
  rw [show f_X0_init_54 gi_F h5 h.length 0 = f_X0_init_73 h6 h.length from e6]
  have x6 := x5.tr (gx.of f6 (by omega))
  have l6 : h6.length = h.length + 3 := by rw [f6.1, l5]
  have G6 := G5.fr f6 (by simp)
  have A6 := A5.fr f6 (by simp)
  unfold f_X0_init_73 gi_new
  simp only [Option.bind_some]
  have C6 := ga.nw h6 12
  rw [l6] at C6 ⊢
  obtain ⟨h7, e7, G7, f7⟩ := go_fp (G6.ap (e := gi_na 0 12)) (.ref (h.length + 3)) (k := 8) (by simp [gi_dfX0])
  rw [e7]
  have x7 := (x6.tr (gx.ap h6 (gi_na 0 12) (by omega))).tr (gx.of f7 (Nat.le_refl _))
  have l7 : h7.length = h.length + 4 := by rw [f7.1, List.length_append, l6]; rfl
  have A7 := (A6.ap (e := gi_na 0 12)).fr f7 (by simp)
  have B7 := (B6.ap (e := gi_na 0 12)).fr f7 (by simp)
  have C7 := C6.fr f7 (by simp)
  simp only [Option.bind_some]
  have D7 := ga.nw h7 12
  rw [l7] at D7 ⊢
  obtain ⟨h8, e8, G8, f8⟩ := go_fp (G7.ap (e := gi_na 0 12)) (.ref (h.length + 4)) (k := 9) (by simp [gi_dfX0])
  rw [e8]
  have x8 := (x7.tr (gx.ap h7 (gi_na 0 12) (by omega))).tr (gx.of f8 (Nat.le_refl _))
  have l8 : h8.length = h.length + 5 := by rw [f8.1, List.length_append, l7]; rfl
  have A8 := (A7.ap (e := gi_na 0 12)).fr f8 (by simp)
  have B8 := (B7.ap (e := gi_na 0 12)).fr f8 (by simp)
  have C8 := (C7.ap (e := gi_na 0 12)).fr f8 (by simp)
  have D8 := D7.fr f8 (by simp)
  simp only [Option.bind_some]
  have E8 := ga.nw h8 12
  rw [l8] at E8 ⊢
  obtain ⟨h9, e9, G9, f9⟩ := go_fp (G8.ap (e := gi_na 0 12)) (.ref (h.length + 5)) (k := 10) (by simp [gi_dfX0])
  rw [e9]
  have x9 := (x8.tr (gx.ap h8 (gi_na 0 12) (by omega))).tr (gx.of f9 (Nat.le_refl _))
  have l9 : h9.length = h.length + 6 := by rw [f9.1, List.length_append, l8]; rfl
  have A9 := (A8.ap (e := gi_na 0 12)).fr f9 (by simp)
  have B9 := (B8.ap (e := gi_na 0 12)).fr f9 (by simp)
  have C9 := (C8.ap (e := gi_na 0 12)).fr f9 (by simp)
  have D9 := (D8.ap (e := gi_na 0 12)).fr f9 (by simp)
  have E9 := E8.fr f9 (by simp)
  simp only [Option.bind_some]
  have F9 := ga.nw h9 12
  rw [l9] at F9 ⊢
  obtain ⟨h10, e10, G10, f10⟩ := go_fp (G9.ap (e := gi_na 0 12)) (.ref (h.length + 6)) (k := 11) (by simp [gi_dfX0])
  rw [e10]
  have x10 := (x9.tr (gx.ap h9 (gi_na 0 12) (by omega))).tr (gx.of f10 (Nat.le_refl _))
  have l10 : h10.length = h.length + 7 := by rw [f10.1, List.length_append, l9]; rfl
  have A10 := (A9.ap (e := gi_na 0 12)).fr f10 (by simp)
  have B10 := (B9.ap (e := gi_na 0 12)).fr f10 (by simp)
  have C10 := (C9.ap (e := gi_na 0 12)).fr f10 (by simp)
  have D10 := (D9.ap (e := gi_na 0 12)).fr f10 (by simp)
  have E10 := (E9.ap (e := gi_na 0 12)).fr f10 (by simp)
  have F10 := F9.fr f10 (by simp)
  simp only [Option.bind_some]
  have H10 := ga.nw h10 8
  rw [l10] at H10 ⊢
  obtain ⟨h11, e11, G11, f11⟩ := go_fp (G10.ap (e := gi_na 0 8)) (.ref (h.length + 7)) (k := 12) (by simp [gi_dfX0])
  rw [e11]
  have x11 := (x10.tr (gx.ap h10 (gi_na 0 8) (by omega))).tr (gx.of f11 (Nat.le_refl _))
  have l11 : h11.length = h.length + 8 := by rw [f11.1, List.length_append, l10]; rfl
  have A11 := (A10.ap (e := gi_na 0 8)).fr f11 (by simp)
  have B11 := (B10.ap (e := gi_na 0 8)).fr f11 (by simp)
  have C11 := (C10.ap (e := gi_na 0 8)).fr f11 (by simp)
  have D11 := (D10.ap (e := gi_na 0 8)).fr f11 (by simp)
  have E11 := (E10.ap (e := gi_na 0 8)).fr f11 (by simp)
  have F11 := (F10.ap (e := gi_na 0 8)).fr f11 (by simp)
  have H11 := H10.fr f11 (by simp)
  simp only [Option.bind_some]
  have I11 := ga.nw h11 8
  rw [l11] at I11 ⊢
  obtain ⟨h12, e12, G12, f12⟩ := go_fp (G11.ap (e := gi_na 0 8)) (.ref (h.length + 8)) (k := 13) (by simp [gi_dfX0])
  rw [e12]
  have x12 := (x11.tr (gx.ap h11 (gi_na 0 8) (by omega))).tr (gx.of f12 (Nat.le_refl _))
  have l12 : h12.length = h.length + 9 := by rw [f12.1, List.length_append, l11]; rfl
  have A12 := (A11.ap (e := gi_na 0 8)).fr f12 (by simp)
  have B12 := (B11.ap (e := gi_na 0 8)).fr f12 (by simp)
  have C12 := (C11.ap (e := gi_na 0 8)).fr f12 (by simp)
  have D12 := (D11.ap (e := gi_na 0 8)).fr f12 (by simp)
  have E12 := (E11.ap (e := gi_na 0 8)).fr f12 (by simp)
  have F12 := (F11.ap (e := gi_na 0 8)).fr f12 (by simp)
  have H12 := (H11.ap (e := gi_na 0 8)).fr f12 (by simp)
  have I12 := I11.fr f12 (by simp)
  simp only [Option.bind_some]
  have J12 := ga.nw h12 8
  rw [l12] at J12 ⊢
  obtain ⟨h13, e13, G13, f13⟩ := go_fp (G12.ap (e := gi_na 0 8)) (.ref (h.length + 9)) (k := 14) (by simp [gi_dfX0])
  rw [e13]
  have x13 := (x12.tr (gx.ap h12 (gi_na 0 8) (by omega))).tr (gx.of f13 (Nat.le_refl _))
  have l13 : h13.length = h.length + 10 := by rw [f13.1, List.length_append, l12]; rfl
  have A13 := (A12.ap (e := gi_na 0 8)).fr f13 (by simp)
  have B13 := (B12.ap (e := gi_na 0 8)).fr f13 (by simp)
  have C13 := (C12.ap (e := gi_na 0 8)).fr f13 (by simp)
  have D13 := (D12.ap (e := gi_na 0 8)).fr f13 (by simp)
  have E13 := (E12.ap (e := gi_na 0 8)).fr f13 (by simp)
  have F13 := (F12.ap (e := gi_na 0 8)).fr f13 (by simp)
  have H13 := (H12.ap (e := gi_na 0 8)).fr f13 (by simp)
  have I13 := (I12.ap (e := gi_na 0 8)).fr f13 (by simp)
  have J13 := J12.fr f13 (by simp)
  refine ⟨h13, rfl, l13, x13, G13, A13.cong (fun i hi => ?_), B13.cong (fun i hi => ?_), C13.cong (fun i hi => ?_), D13.cong (fun i hi => ?_), E13.cong (fun i hi => ?_), F13.cong (fun i hi => ?_), H13, I13, J13⟩
  · exact (if_pos hi).symm
  · unfold N0; rw [if_neg (by omega), if_pos (by omega)]
  · unfold N0; rw [if_neg (by omega), if_neg (by omega), if_neg (by omega)]
  · unfold N0; rw [if_neg (by omega), if_neg (by omega), if_neg (by omega)]
  · unfold N0; rw [if_neg (by omega), if_neg (by omega), if_neg (by omega)]
  · unfold N0; rw [if_neg (by omega), if_neg (by omega), if_neg (by omega)]
