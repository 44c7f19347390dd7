/-! THE CLASS'S BOOK, 2: copies, deaths, months -/
theorem ga_cp {h : gi_H} {a d n : Nat} {g g' : Nat → Nat} (S : ga h a n g) (T : ga h d n g') (hn : n < 2 ^ 31) : ∃ h', gi_cp h a 0 d 0 (nI n) = some h' ∧ ga h' d n g ∧ gfr [d] h h' := by
  obtain ⟨f, h1, h2⟩ := S
  obtain ⟨f', h3, h4⟩ := T
  unfold gi_cp
  rw [h1, h3]
  simp only
  have c0 : (0 : Int32).toNatClampNeg = 0 := by decide
  rw [if_pos ⟨trivial, trivial, by decide, by decide, nI_pos hn, by rw [c0, nI_clamp hn]; omega, by rw [c0, nI_clamp hn]; omega⟩]
  refine ⟨_, rfl, ⟨_, by rw [List.getElem?_set_self (List.getElem?_eq_some_iff.mp h3).1], fun i hi => ?_⟩, gfr_set _ _⟩
  rw [c0, nI_clamp hn, pk_cpy_in (by omega) (by omega), Nat.zero_add, Nat.sub_zero]
  exact h2 i hi
theorem bk.congs {h : gi_H} {k : Nat} {N : Nat → Nat} {ns : Nat} {sg sg' : Nat → Nat} (H : bk h k N ns sg) (e : ∀ i, i < 24 → sg i = sg' i) : bk h k N ns sg' := by
  obtain ⟨b0, b1, b2, b3, b4, b5, b6, b7, b8, b9⟩ := H
  exact ⟨b0, b1, b2, b3, b4, b5, b6, b7.cong (fun i hi => e _ (by omega)), b8.cong (fun i hi => e _ (by omega)), b9.cong (fun i hi => e _ (by omega))⟩
theorem bk_c6 {h : gi_H} {k : Nat} {N : Nat → Nat} {ns : Nat} {sg : Nat → Nat} (H : bk h k N ns sg) {a : Nat} {g : Nat → Nat} (S : ga h a 6 g) : ∃ h', gi_cp h a 0 (k + 1) 0 6 = some h' ∧ bk h' k (fun j => if j < 6 then g (j) else N j) ns sg ∧ gfr (bkl k) h h' := by
  obtain ⟨b0, b1, b2, b3, b4, b5, b6, b7, b8, b9⟩ := H
  obtain ⟨h', e1, e2, e3⟩ := ga_cp S b1 (by decide)
  refine ⟨h', e1, ⟨?_, ?_, ?_, ?_, ?_, ?_, ?_, b7.keep (e3.2 _ (by simp)), b8.keep (e3.2 _ (by simp)), b9.keep (e3.2 _ (by simp))⟩, e3.mono (by simp [bkl])⟩
  · have b0 := b0.keep (e3.2 _ (by simp))
    unfold bkf at b0 ⊢
    dsimp only
    rw [if_neg (by omega), if_neg (by omega), if_neg (by omega), if_neg (by omega), if_neg (by omega)]
    exact b0
  · exact e2.cong (fun x hx => by dsimp only; rw [if_pos (by omega)] <;> exact congrArg g (by omega))
  · exact (b2.keep (e3.2 _ (by simp))).cong (fun x hx => by dsimp only; rw [if_neg (by omega)])
  · exact (b3.keep (e3.2 _ (by simp))).cong (fun x hx => by dsimp only; rw [if_neg (by omega)])
  · exact (b4.keep (e3.2 _ (by simp))).cong (fun x hx => by dsimp only; rw [if_neg (by omega)])
  · exact (b5.keep (e3.2 _ (by simp))).cong (fun x hx => by dsimp only; rw [if_neg (by omega)])
  · exact (b6.keep (e3.2 _ (by simp))).cong (fun x hx => by dsimp only; rw [if_neg (by omega)])
theorem bk_c7 {h : gi_H} {k : Nat} {N : Nat → Nat} {ns : Nat} {sg : Nat → Nat} (H : bk h k N ns sg) {a : Nat} {g : Nat → Nat} (S : ga h a 4 g) : ∃ h', gi_cp h a 0 (k + 2) 0 4 = some h' ∧ bk h' k (fun j => if 6 ≤ j ∧ j < 10 then g (j - 6) else N j) ns sg ∧ gfr (bkl k) h h' := by
  obtain ⟨b0, b1, b2, b3, b4, b5, b6, b7, b8, b9⟩ := H
  obtain ⟨h', e1, e2, e3⟩ := ga_cp S b2 (by decide)
  refine ⟨h', e1, ⟨?_, ?_, ?_, ?_, ?_, ?_, ?_, b7.keep (e3.2 _ (by simp)), b8.keep (e3.2 _ (by simp)), b9.keep (e3.2 _ (by simp))⟩, e3.mono (by simp [bkl])⟩
  · have b0 := b0.keep (e3.2 _ (by simp))
    unfold bkf at b0 ⊢
    dsimp only
    rw [if_neg (by omega), if_neg (by omega), if_neg (by omega), if_neg (by omega), if_neg (by omega)]
    exact b0
  · exact (b1.keep (e3.2 _ (by simp))).cong (fun x hx => by dsimp only; rw [if_neg (by omega)])
  · exact e2.cong (fun x hx => by dsimp only; rw [if_pos (by omega)] <;> exact congrArg g (by omega))
  · exact (b3.keep (e3.2 _ (by simp))).cong (fun x hx => by dsimp only; rw [if_neg (by omega)])
  · exact (b4.keep (e3.2 _ (by simp))).cong (fun x hx => by dsimp only; rw [if_neg (by omega)])
  · exact (b5.keep (e3.2 _ (by simp))).cong (fun x hx => by dsimp only; rw [if_neg (by omega)])
  · exact (b6.keep (e3.2 _ (by simp))).cong (fun x hx => by dsimp only; rw [if_neg (by omega)])
theorem bk_c8 {h : gi_H} {k : Nat} {N : Nat → Nat} {ns : Nat} {sg : Nat → Nat} (H : bk h k N ns sg) {a : Nat} {g : Nat → Nat} (S : ga h a 12 g) : ∃ h', gi_cp h a 0 (k + 3) 0 12 = some h' ∧ bk h' k (fun j => if 15 ≤ j ∧ (j - 15) % 4 = 0 then g ((j - 15) / 4) else N j) ns sg ∧ gfr (bkl k) h h' := by
  obtain ⟨b0, b1, b2, b3, b4, b5, b6, b7, b8, b9⟩ := H
  obtain ⟨h', e1, e2, e3⟩ := ga_cp S b3 (by decide)
  refine ⟨h', e1, ⟨?_, ?_, ?_, ?_, ?_, ?_, ?_, b7.keep (e3.2 _ (by simp)), b8.keep (e3.2 _ (by simp)), b9.keep (e3.2 _ (by simp))⟩, e3.mono (by simp [bkl])⟩
  · have b0 := b0.keep (e3.2 _ (by simp))
    unfold bkf at b0 ⊢
    dsimp only
    rw [if_neg (by omega), if_neg (by omega), if_neg (by omega), if_neg (by omega), if_neg (by omega)]
    exact b0
  · exact (b1.keep (e3.2 _ (by simp))).cong (fun x hx => by dsimp only; rw [if_neg (by omega)])
  · exact (b2.keep (e3.2 _ (by simp))).cong (fun x hx => by dsimp only; rw [if_neg (by omega)])
  · exact e2.cong (fun x hx => by dsimp only; rw [if_pos (by omega)] <;> exact congrArg g (by omega))
  · exact (b4.keep (e3.2 _ (by simp))).cong (fun x hx => by dsimp only; rw [if_neg (by omega)])
  · exact (b5.keep (e3.2 _ (by simp))).cong (fun x hx => by dsimp only; rw [if_neg (by omega)])
  · exact (b6.keep (e3.2 _ (by simp))).cong (fun x hx => by dsimp only; rw [if_neg (by omega)])
theorem bk_c9 {h : gi_H} {k : Nat} {N : Nat → Nat} {ns : Nat} {sg : Nat → Nat} (H : bk h k N ns sg) {a : Nat} {g : Nat → Nat} (S : ga h a 12 g) : ∃ h', gi_cp h a 0 (k + 4) 0 12 = some h' ∧ bk h' k (fun j => if 15 ≤ j ∧ (j - 15) % 4 = 1 then g ((j - 15) / 4) else N j) ns sg ∧ gfr (bkl k) h h' := by
  obtain ⟨b0, b1, b2, b3, b4, b5, b6, b7, b8, b9⟩ := H
  obtain ⟨h', e1, e2, e3⟩ := ga_cp S b4 (by decide)
  refine ⟨h', e1, ⟨?_, ?_, ?_, ?_, ?_, ?_, ?_, b7.keep (e3.2 _ (by simp)), b8.keep (e3.2 _ (by simp)), b9.keep (e3.2 _ (by simp))⟩, e3.mono (by simp [bkl])⟩
  · have b0 := b0.keep (e3.2 _ (by simp))
    unfold bkf at b0 ⊢
    dsimp only
    rw [if_neg (by omega), if_neg (by omega), if_neg (by omega), if_neg (by omega), if_neg (by omega)]
    exact b0
  · exact (b1.keep (e3.2 _ (by simp))).cong (fun x hx => by dsimp only; rw [if_neg (by omega)])
  · exact (b2.keep (e3.2 _ (by simp))).cong (fun x hx => by dsimp only; rw [if_neg (by omega)])
  · exact (b3.keep (e3.2 _ (by simp))).cong (fun x hx => by dsimp only; rw [if_neg (by omega)])
  · exact e2.cong (fun x hx => by dsimp only; rw [if_pos (by omega)] <;> exact congrArg g (by omega))
  · exact (b5.keep (e3.2 _ (by simp))).cong (fun x hx => by dsimp only; rw [if_neg (by omega)])
  · exact (b6.keep (e3.2 _ (by simp))).cong (fun x hx => by dsimp only; rw [if_neg (by omega)])
theorem bk_c10 {h : gi_H} {k : Nat} {N : Nat → Nat} {ns : Nat} {sg : Nat → Nat} (H : bk h k N ns sg) {a : Nat} {g : Nat → Nat} (S : ga h a 12 g) : ∃ h', gi_cp h a 0 (k + 5) 0 12 = some h' ∧ bk h' k (fun j => if 15 ≤ j ∧ (j - 15) % 4 = 2 then g ((j - 15) / 4) else N j) ns sg ∧ gfr (bkl k) h h' := by
  obtain ⟨b0, b1, b2, b3, b4, b5, b6, b7, b8, b9⟩ := H
  obtain ⟨h', e1, e2, e3⟩ := ga_cp S b5 (by decide)
  refine ⟨h', e1, ⟨?_, ?_, ?_, ?_, ?_, ?_, ?_, b7.keep (e3.2 _ (by simp)), b8.keep (e3.2 _ (by simp)), b9.keep (e3.2 _ (by simp))⟩, e3.mono (by simp [bkl])⟩
  · have b0 := b0.keep (e3.2 _ (by simp))
    unfold bkf at b0 ⊢
    dsimp only
    rw [if_neg (by omega), if_neg (by omega), if_neg (by omega), if_neg (by omega), if_neg (by omega)]
    exact b0
  · exact (b1.keep (e3.2 _ (by simp))).cong (fun x hx => by dsimp only; rw [if_neg (by omega)])
  · exact (b2.keep (e3.2 _ (by simp))).cong (fun x hx => by dsimp only; rw [if_neg (by omega)])
  · exact (b3.keep (e3.2 _ (by simp))).cong (fun x hx => by dsimp only; rw [if_neg (by omega)])
  · exact (b4.keep (e3.2 _ (by simp))).cong (fun x hx => by dsimp only; rw [if_neg (by omega)])
  · exact e2.cong (fun x hx => by dsimp only; rw [if_pos (by omega)] <;> exact congrArg g (by omega))
  · exact (b6.keep (e3.2 _ (by simp))).cong (fun x hx => by dsimp only; rw [if_neg (by omega)])
theorem bk_c11 {h : gi_H} {k : Nat} {N : Nat → Nat} {ns : Nat} {sg : Nat → Nat} (H : bk h k N ns sg) {a : Nat} {g : Nat → Nat} (S : ga h a 12 g) : ∃ h', gi_cp h a 0 (k + 6) 0 12 = some h' ∧ bk h' k (fun j => if 15 ≤ j ∧ (j - 15) % 4 = 3 then g ((j - 15) / 4) else N j) ns sg ∧ gfr (bkl k) h h' := by
  obtain ⟨b0, b1, b2, b3, b4, b5, b6, b7, b8, b9⟩ := H
  obtain ⟨h', e1, e2, e3⟩ := ga_cp S b6 (by decide)
  refine ⟨h', e1, ⟨?_, ?_, ?_, ?_, ?_, ?_, ?_, b7.keep (e3.2 _ (by simp)), b8.keep (e3.2 _ (by simp)), b9.keep (e3.2 _ (by simp))⟩, e3.mono (by simp [bkl])⟩
  · have b0 := b0.keep (e3.2 _ (by simp))
    unfold bkf at b0 ⊢
    dsimp only
    rw [if_neg (by omega), if_neg (by omega), if_neg (by omega), if_neg (by omega), if_neg (by omega)]
    exact b0
  · exact (b1.keep (e3.2 _ (by simp))).cong (fun x hx => by dsimp only; rw [if_neg (by omega)])
  · exact (b2.keep (e3.2 _ (by simp))).cong (fun x hx => by dsimp only; rw [if_neg (by omega)])
  · exact (b3.keep (e3.2 _ (by simp))).cong (fun x hx => by dsimp only; rw [if_neg (by omega)])
  · exact (b4.keep (e3.2 _ (by simp))).cong (fun x hx => by dsimp only; rw [if_neg (by omega)])
  · exact (b5.keep (e3.2 _ (by simp))).cong (fun x hx => by dsimp only; rw [if_neg (by omega)])
  · exact e2.cong (fun x hx => by dsimp only; rw [if_pos (by omega)] <;> exact congrArg g (by omega))
theorem bk_c12 {h : gi_H} {k : Nat} {N : Nat → Nat} {ns : Nat} {sg : Nat → Nat} (H : bk h k N ns sg) {a : Nat} {g : Nat → Nat} (S : ga h a 8 g) : ∃ h', gi_cp h a 0 (k + 7) 0 8 = some h' ∧ bk h' k N ns (fun j => if j % 3 = 0 then g (j / 3) else sg j) ∧ gfr (bkl k) h h' := by
  obtain ⟨b0, b1, b2, b3, b4, b5, b6, b7, b8, b9⟩ := H
  obtain ⟨h', e1, e2, e3⟩ := ga_cp S b7 (by decide)
  refine ⟨h', e1, ⟨b0.keep (e3.2 _ (by simp)), b1.keep (e3.2 _ (by simp)), b2.keep (e3.2 _ (by simp)), b3.keep (e3.2 _ (by simp)), b4.keep (e3.2 _ (by simp)), b5.keep (e3.2 _ (by simp)), b6.keep (e3.2 _ (by simp)), ?_, ?_, ?_⟩, e3.mono (by simp [bkl])⟩
  · exact e2.cong (fun x hx => by dsimp only; rw [if_pos (by omega)] <;> exact congrArg g (by omega))
  · exact (b8.keep (e3.2 _ (by simp))).cong (fun x hx => by dsimp only; rw [if_neg (by omega)])
  · exact (b9.keep (e3.2 _ (by simp))).cong (fun x hx => by dsimp only; rw [if_neg (by omega)])
theorem bk_c13 {h : gi_H} {k : Nat} {N : Nat → Nat} {ns : Nat} {sg : Nat → Nat} (H : bk h k N ns sg) {a : Nat} {g : Nat → Nat} (S : ga h a 8 g) : ∃ h', gi_cp h a 0 (k + 8) 0 8 = some h' ∧ bk h' k N ns (fun j => if j % 3 = 1 then g (j / 3) else sg j) ∧ gfr (bkl k) h h' := by
  obtain ⟨b0, b1, b2, b3, b4, b5, b6, b7, b8, b9⟩ := H
  obtain ⟨h', e1, e2, e3⟩ := ga_cp S b8 (by decide)
  refine ⟨h', e1, ⟨b0.keep (e3.2 _ (by simp)), b1.keep (e3.2 _ (by simp)), b2.keep (e3.2 _ (by simp)), b3.keep (e3.2 _ (by simp)), b4.keep (e3.2 _ (by simp)), b5.keep (e3.2 _ (by simp)), b6.keep (e3.2 _ (by simp)), ?_, ?_, ?_⟩, e3.mono (by simp [bkl])⟩
  · exact (b7.keep (e3.2 _ (by simp))).cong (fun x hx => by dsimp only; rw [if_neg (by omega)])
  · exact e2.cong (fun x hx => by dsimp only; rw [if_pos (by omega)] <;> exact congrArg g (by omega))
  · exact (b9.keep (e3.2 _ (by simp))).cong (fun x hx => by dsimp only; rw [if_neg (by omega)])
theorem bk_c14 {h : gi_H} {k : Nat} {N : Nat → Nat} {ns : Nat} {sg : Nat → Nat} (H : bk h k N ns sg) {a : Nat} {g : Nat → Nat} (S : ga h a 8 g) : ∃ h', gi_cp h a 0 (k + 9) 0 8 = some h' ∧ bk h' k N ns (fun j => if j % 3 = 2 then g (j / 3) else sg j) ∧ gfr (bkl k) h h' := by
  obtain ⟨b0, b1, b2, b3, b4, b5, b6, b7, b8, b9⟩ := H
  obtain ⟨h', e1, e2, e3⟩ := ga_cp S b9 (by decide)
  refine ⟨h', e1, ⟨b0.keep (e3.2 _ (by simp)), b1.keep (e3.2 _ (by simp)), b2.keep (e3.2 _ (by simp)), b3.keep (e3.2 _ (by simp)), b4.keep (e3.2 _ (by simp)), b5.keep (e3.2 _ (by simp)), b6.keep (e3.2 _ (by simp)), ?_, ?_, ?_⟩, e3.mono (by simp [bkl])⟩
  · exact (b7.keep (e3.2 _ (by simp))).cong (fun x hx => by dsimp only; rw [if_neg (by omega)])
  · exact (b8.keep (e3.2 _ (by simp))).cong (fun x hx => by dsimp only; rw [if_neg (by omega)])
  · exact e2.cong (fun x hx => by dsimp only; rw [if_pos (by omega)] <;> exact congrArg g (by omega))
theorem d_copy {h : gi_H} {d s : Nat} {N N' : Nat → Nat} {ns ns' : Nat} {sg sg' : Nat → Nat} (T : bk h d N ns sg) (S : bk h s N' ns' sg') (dis : ∀ j, j ∈ bkl s → j ∉ bkl d) : ∃ h', f_X0_copyFrom h d s = some h' ∧ bk h' d N' ns' sg' ∧ gfr (bkl d) h h' := by
  unfold f_X0_copyFrom
  obtain ⟨-, z0, -⟩ := bk_rd S
  rw [z0]
  simp only [Option.bind_some]
  obtain ⟨h0, e0, T0, f0⟩ := bk_w0 T (N' 11)
  rw [e0]
  simp only [Option.bind_some]
  have S0 := S.fr f0 dis
  obtain ⟨-, -, z1, -⟩ := bk_rd S0
  rw [z1]
  simp only [Option.bind_some]
  obtain ⟨h1, e1, T1, f1⟩ := bk_w1 T0 (N' 10)
  rw [e1]
  simp only [Option.bind_some]
  have S1 := S0.fr f1 dis
  obtain ⟨-, -, -, z2, -⟩ := bk_rd S1
  rw [z2]
  simp only [Option.bind_some]
  obtain ⟨h2, e2, T2, f2⟩ := bk_w2 T1 (N' 12)
  rw [e2]
  simp only [Option.bind_some]
  have S2 := S1.fr f2 dis
  obtain ⟨-, -, -, -, z3, -⟩ := bk_rd S2
  rw [z3]
  simp only [Option.bind_some]
  obtain ⟨h3, e3, T3, f3⟩ := bk_w3 T2 (N' 13)
  rw [e3]
  simp only [Option.bind_some]
  have S3 := S2.fr f3 dis
  obtain ⟨-, -, -, -, -, z4, -⟩ := bk_rd S3
  rw [z4]
  simp only [Option.bind_some]
  obtain ⟨h4, e4, T4, f4⟩ := bk_w4 T3 (N' 14)
  rw [e4]
  simp only [Option.bind_some]
  have S4 := S3.fr f4 dis
  obtain ⟨-, -, -, -, -, -, z5, -⟩ := bk_rd S4
  rw [z5]
  simp only [Option.bind_some]
  obtain ⟨h5, e5, T5, f5⟩ := bk_w5 T4 ns'
  rw [e5]
  simp only [Option.bind_some]
  have S5 := S4.fr f5 dis
  obtain ⟨-, -, -, -, -, -, -, z6, -⟩ := bk_rd S5
  obtain ⟨-, -, -, -, -, -, -, y6, -⟩ := bk_rd T5
  rw [z6, y6]
  simp only [Option.bind_some]
  obtain ⟨h6, e6, T6, f6⟩ := bk_c6 T5 S5.2.1
  rw [e6]
  simp only [Option.bind_some]
  have S6 := S5.fr f6 dis
  obtain ⟨-, -, -, -, -, -, -, -, z7, -⟩ := bk_rd S6
  obtain ⟨-, -, -, -, -, -, -, -, y7, -⟩ := bk_rd T6
  rw [z7, y7]
  simp only [Option.bind_some]
  obtain ⟨h7, e7, T7, f7⟩ := bk_c7 T6 S6.2.2.1
  rw [e7]
  simp only [Option.bind_some]
  have S7 := S6.fr f7 dis
  obtain ⟨-, -, -, -, -, -, -, -, -, z8, -⟩ := bk_rd S7
  obtain ⟨-, -, -, -, -, -, -, -, -, y8, -⟩ := bk_rd T7
  rw [z8, y8]
  simp only [Option.bind_some]
  obtain ⟨h8, e8, T8, f8⟩ := bk_c8 T7 S7.2.2.2.1
  rw [e8]
  simp only [Option.bind_some]
  have S8 := S7.fr f8 dis
  obtain ⟨-, -, -, -, -, -, -, -, -, -, z9, -⟩ := bk_rd S8
  obtain ⟨-, -, -, -, -, -, -, -, -, -, y9, -⟩ := bk_rd T8
  rw [z9, y9]
  simp only [Option.bind_some]
  obtain ⟨h9, e9, T9, f9⟩ := bk_c9 T8 S8.2.2.2.2.1
  rw [e9]
  simp only [Option.bind_some]
  have S9 := S8.fr f9 dis
  obtain ⟨-, -, -, -, -, -, -, -, -, -, -, z10, -⟩ := bk_rd S9
  obtain ⟨-, -, -, -, -, -, -, -, -, -, -, y10, -⟩ := bk_rd T9
  rw [z10, y10]
  simp only [Option.bind_some]
  obtain ⟨h10, e10, T10, f10⟩ := bk_c10 T9 S9.2.2.2.2.2.1
  rw [e10]
  simp only [Option.bind_some]
  have S10 := S9.fr f10 dis
  obtain ⟨-, -, -, -, -, -, -, -, -, -, -, -, z11, -⟩ := bk_rd S10
  obtain ⟨-, -, -, -, -, -, -, -, -, -, -, -, y11, -⟩ := bk_rd T10
  rw [z11, y11]
  simp only [Option.bind_some]
  obtain ⟨h11, e11, T11, f11⟩ := bk_c11 T10 S10.2.2.2.2.2.2.1
  rw [e11]
  simp only [Option.bind_some]
  have S11 := S10.fr f11 dis
  obtain ⟨-, -, -, -, -, -, -, -, -, -, -, -, -, z12, -⟩ := bk_rd S11
  obtain ⟨-, -, -, -, -, -, -, -, -, -, -, -, -, y12, -⟩ := bk_rd T11
  rw [z12, y12]
  simp only [Option.bind_some]
  obtain ⟨h12, e12, T12, f12⟩ := bk_c12 T11 S11.2.2.2.2.2.2.2.1
  rw [e12]
  simp only [Option.bind_some]
  have S12 := S11.fr f12 dis
  obtain ⟨-, -, -, -, -, -, -, -, -, -, -, -, -, -, z13, -⟩ := bk_rd S12
  obtain ⟨-, -, -, -, -, -, -, -, -, -, -, -, -, -, y13, -⟩ := bk_rd T12
  rw [z13, y13]
  simp only [Option.bind_some]
  obtain ⟨h13, e13, T13, f13⟩ := bk_c13 T12 S12.2.2.2.2.2.2.2.2.1
  rw [e13]
  simp only [Option.bind_some]
  have S13 := S12.fr f13 dis
  obtain ⟨-, -, -, -, -, -, -, -, -, -, -, -, -, -, -, z14, -⟩ := bk_rd S13
  obtain ⟨-, -, -, -, -, -, -, -, -, -, -, -, -, -, -, y14, -⟩ := bk_rd T13
  rw [z14, y14]
  simp only [Option.bind_some]
  obtain ⟨h14, e14, T14, f14⟩ := bk_c14 T13 S13.2.2.2.2.2.2.2.2.2
  rw [e14]
  simp only [Option.bind_some]
  have S14 := S13.fr f14 dis
  refine ⟨h14, rfl, (T14.cong (fun i hi => ?_)).congs (fun i hi => ?_), ((((((((((((((f0.trans f1).trans f2).trans f3).trans f4).trans f5).trans f6).trans f7).trans f8).trans f9).trans f10).trans f11).trans f12).trans f13).trans f14)⟩
  · simp only [gu]
    by_cases a1 : i < 15
    · rw [if_neg (by omega), if_neg (by omega), if_neg (by omega), if_neg (by omega)]
      by_cases a2 : i < 6
      · rw [if_neg (by omega), if_pos a2]
      · by_cases a3 : i < 10
        · rw [if_pos (by omega)]; exact congrArg N' (by omega)
        · rw [if_neg (by omega), if_neg (by omega)]
          by_cases q14 : i = 14
          · rw [if_pos q14, q14]
          · rw [if_neg q14]
            by_cases q13 : i = 13
            · rw [if_pos q13, q13]
            · rw [if_neg q13]
              by_cases q12 : i = 12
              · rw [if_pos q12, q12]
              · rw [if_neg q12]
                by_cases q10 : i = 10
                · rw [if_pos q10, q10]
                · rw [if_neg q10, if_pos (by omega), show i = 11 by omega]
    · by_cases m3 : (i - 15) % 4 = 3
      · rw [if_pos (by omega)]; exact congrArg N' (by omega)
      · rw [if_neg (by omega)]
        by_cases m2 : (i - 15) % 4 = 2
        · rw [if_pos (by omega)]; exact congrArg N' (by omega)
        · rw [if_neg (by omega)]
          by_cases m1 : (i - 15) % 4 = 1
          · rw [if_pos (by omega)]; exact congrArg N' (by omega)
          · rw [if_neg (by omega), if_pos (by omega)]; exact congrArg N' (by omega)
  · by_cases m2 : i % 3 = 2
    · simp only [if_pos m2]; exact congrArg sg' (by omega)
    · simp only [if_neg m2]
      by_cases m1 : i % 3 = 1
      · simp only [if_pos m1]; exact congrArg sg' (by omega)
      · simp only [if_neg m1]
        rw [if_pos (by omega)]; exact congrArg sg' (by omega)
section DEV2
variable {k : Nat} {ns : Nat} {sg : Nat → Nat}
theorem d_pays {N : Nat → Nat} (I : inv N) {x : Nat} (hx : x < 6) : ∀ (n p : Nat) (h : gi_H), p ≤ 12 → 12 - p < n → bk h k (sp_pays N x p) ns sg → ∃ h', f_X0_endLife_31 n h k (nI x) (nI p) = some (0, h') ∧ bk h' k (sp_pays N x 12) ns sg ∧ gfr (bkl k) h h' := by
  intro n
  induction n with
  | zero => intro p h _ hn; omega
  | succ n ih =>
    intro p h hp hn H
    unfold f_X0_endLife_31
    rcases Nat.lt_or_ge p 12 with hlt | hge
    · rw [if_neg (by show ¬ nI 12 ≤ nI p; rw [nI_leI (by decide) (by omega)]; omega)]
      have I2 := inv_pays I x p (by omega)
      have hstep : sp_pays N x (p + 1) = sp_pay (sp_pays N x p) x p := rfl
      generalize sp_pays N x p = M at *
      obtain ⟨i1, i2, i3, i4, i5, i6, i7, i8, i9⟩ := id I2
      obtain ⟨j1, j2, ⟨c, jc, j3⟩, j4⟩ := i8 p hlt
      obtain ⟨ri, r0, r1, r2, r3, r4, r5, q6, q7, q8, q9, q10, q11, q12, q13, q14, a6, a7, a8, a9, a10, a11, -⟩ := bk_rd H
      rw [if_pos ri, d_stands H i7 hlt]
      simp only [Option.bind_some]
      rw [n_ifb]
      by_cases c1 : (M 14).testBit p = true
      · rw [if_pos c1, q9]
        simp only [Option.bind_some]
        rw [a9 p hlt]
        simp only [Option.bind_some]
        by_cases c2 : M (16 + 4 * p) = x
        · rw [if_pos (show nI (M (16 + 4 * p)) = nI x by rw [c2]), q10]
          simp only [Option.bind_some]
          rw [a10 p hlt]
          simp only [Option.bind_some]
          rw [r1]
          simp only [Option.bind_some]
          rw [n_min _ _ (by omega) (by omega)]
          simp only [Option.bind_some]
          rw [q8]
          simp only [Option.bind_some]
          rw [a8 p hlt]
          simp only [Option.bind_some]
          rw [if_pos ri]
          obtain ⟨h1, e1, H1, f1⟩ := d_receive H (b := M (15 + 4 * p)) (m := min (M (17 + 4 * p)) (M 10)) (by omega) (by omega) (i2 _ (by omega))
          rw [e1]
          simp only [Option.bind_some]
          obtain ⟨-, -, s1, -⟩ := bk_rd H1
          have e10 : sp_gets M (M (15 + 4 * p)) (min (M (17 + 4 * p)) (M 10)) 10 = M 10 := gu_ne _ _ (by omega)
          rw [e10] at s1
          rw [s1]
          simp only [Option.bind_some]
          rw [pk_sub (Nat.min_le_right _ _)]
          obtain ⟨h2, e2, H2, f2⟩ := bk_w1 H1 (M 10 - min (M (17 + 4 * p)) (M 10))
          rw [e2]
          simp only [Option.bind_some]
          rw [if_pos (bk_rd H2).1]
          obtain ⟨h3, e3, H3, f3⟩ := d_strike H2 (p := p) (by
            rw [gu_ne _ _ (by omega)]
            have : sp_gets M (M (15 + 4 * p)) (min (M (17 + 4 * p)) (M 10)) 14 = M 14 := gu_ne _ _ (by omega)
            rw [this]; exact i7) hlt
          rw [e3]
          simp only [Option.bind_some]
          rw [nI_1]
          have H3' : bk h3 k (sp_pays N x (p + 1)) ns sg := by
            rw [hstep]
            unfold sp_pay
            rw [if_pos ⟨c1, c2⟩]
            exact H3
          obtain ⟨h4, e4, H4, f4⟩ := ih (p + 1) h3 (by omega) (by omega) H3'
          exact ⟨h4, e4, H4, ((f1.trans f2).trans f3).trans f4⟩
        · rw [if_neg (n_ne (by omega) (by omega) c2), nI_1]
          refine ih (p + 1) h (by omega) (by omega) ?_
          rw [hstep]
          unfold sp_pay
          rw [if_neg (fun z => c2 z.2)]
          exact H
      · rw [if_neg c1, nI_1]
        refine ih (p + 1) h (by omega) (by omega) ?_
        rw [hstep]
        unfold sp_pay
        rw [if_neg (fun z => c1 z.1)]
        exact H
    · rw [if_pos (by show nI 12 ≤ nI p; rw [nI_leI (by decide) (by omega)]; omega)]
      have : p = 12 := by omega
      subst this
      exact ⟨h, rfl, H, gfr.refl _ _⟩
theorem d_end {h : gi_H} {N : Nat → Nat} (H : bk h k N ns sg) (I : inv N) {x : Nat} (hx : x < 6) (hne : (N 12).testBit x = false) : ∃ h', f_X0_endLife h k (nI x) = some (0, h') ∧ bk h' k (sp_end N x) ns sg ∧ gfr (bkl k) h h' := by
  have i5 := I.2.2.2.2.1
  obtain ⟨ri, r0, r1, r2, -⟩ := bk_rd H
  unfold f_X0_endLife
  rw [life_in hx]
  simp only [Option.bind_some]
  rw [if_neg i1_ne0, if_pos ri, d_ended H i5 (by omega)]
  simp only [Option.bind_some]
  rw [n_ifb, if_neg (by rw [hne]; decide), r2]
  simp only [Option.bind_some]
  rw [n_set (by omega)]
  obtain ⟨h1, e1, H1, f1⟩ := bk_w2 H (N 12 ||| 2 ^ x)
  rw [e1]
  simp only [Option.bind_some]
  have I2 : inv (gu N 12 (N 12 ||| 2 ^ x)) := inv_ended I (or_lt (n := 6) i5 (Nat.pow_lt_pow_right (by omega) hx))
  obtain ⟨h2, e2, H2, f2⟩ := d_pays I2 hx gi_F 0 h1 (by omega) (by decide) H1
  exact ⟨h2, e2, H2, f1.trans f2⟩
theorem d_endN {h : gi_H} {N : Nat → Nat} (H : bk h k N ns sg) (I : inv N) {x : Nat} (hx : x < 6) (hne : (N 12).testBit x = true) : f_X0_endLife h k (nI x) = some (1, h) := by
  have i5 := I.2.2.2.2.1
  obtain ⟨ri, -⟩ := bk_rd H
  unfold f_X0_endLife
  rw [life_in hx]
  simp only [Option.bind_some]
  rw [if_neg i1_ne0, if_pos ri, d_ended H i5 (by omega)]
  simp only [Option.bind_some]
  rw [n_ifb, if_pos hne]
theorem d_overs {N : Nat → Nat} (I : inv N) : ∀ (n p : Nat) (h : gi_H), p ≤ 12 → 12 - p < n → bk h k (sp_overs N p) ns sg → ∃ h', f_X0_turnMonth_14 n h k (nI p) = some (0, h') ∧ bk h' k (gu (sp_overs N 12) 11 (N 11 + 1)) ns sg ∧ gfr (bkl k) h h' := by
  intro n
  induction n with
  | zero => intro p h _ hn; omega
  | succ n ih =>
    intro p h hp hn H
    unfold f_X0_turnMonth_14
    rcases Nat.lt_or_ge p 12 with hlt | hge
    · rw [if_neg (by show ¬ nI 12 ≤ nI p; rw [nI_leI (by decide) (by omega)]; omega)]
      have I2 := inv_overs I p
      have hstep : sp_overs N (p + 1) = sp_over (sp_overs N p) p := rfl
      generalize sp_overs N p = M at *
      obtain ⟨i1, i2, i3, i4, i5, i6, i7, i8, i9⟩ := id I2
      obtain ⟨j1, j2, -, j4⟩ := i8 p hlt
      obtain ⟨ri, r0, r1, r2, r3, r4, r5, q6, q7, q8, q9, q10, q11, q12, q13, q14, a6, a7, a8, a9, a10, a11, -⟩ := bk_rd H
      rw [if_pos ri, d_stands H i7 hlt]
      simp only [Option.bind_some]
      rw [n_ifb]
      by_cases c1 : (M 14).testBit p = true
      · rw [if_pos c1, q11]
        simp only [Option.bind_some]
        rw [a11 p hlt]
        simp only [Option.bind_some]
        rw [r0]
        simp only [Option.bind_some]
        by_cases c2 : M (18 + 4 * p) ≤ M 11
        · rw [if_neg (by rw [nI_ltI (by omega) (by omega)]; omega), if_pos ri]
          obtain ⟨h1, e1, H1, f1⟩ := d_strike H i7 hlt
          rw [e1]
          simp only [Option.bind_some]
          rw [nI_1]
          have H1' : bk h1 k (sp_overs N (p + 1)) ns sg := by
            rw [hstep]
            unfold sp_over
            rw [if_pos ⟨c1, c2⟩]
            exact H1
          obtain ⟨h4, e4, H4, f4⟩ := ih (p + 1) h1 (by omega) (by omega) H1'
          exact ⟨h4, e4, H4, f1.trans f4⟩
        · rw [if_pos (by rw [nI_ltI (by omega) (by omega)]; omega), nI_1]
          refine ih (p + 1) h (by omega) (by omega) ?_
          rw [hstep]
          unfold sp_over
          rw [if_neg (fun z => c2 z.2)]
          exact H
      · rw [if_neg c1, nI_1]
        refine ih (p + 1) h (by omega) (by omega) ?_
        rw [hstep]
        unfold sp_over
        rw [if_neg (fun z => c1 z.1)]
        exact H
    · rw [if_pos (by show nI 12 ≤ nI p; rw [nI_leI (by decide) (by omega)]; omega)]
      have : p = 12 := by omega
      subst this
      unfold f_X0_turnMonth_52
      obtain ⟨-, r0, -⟩ := bk_rd H
      rw [r0]
      simp only [Option.bind_some]
      rw [overs_ne N (i := 11) (by omega) (by omega) 12, nI_1]
      obtain ⟨h1, e1, H1, f1⟩ := bk_w0 H (N 11 + 1)
      rw [e1]
      exact ⟨h1, rfl, H1, f1⟩
theorem d_month {h : gi_H} {N : Nat → Nat} (H : bk h k N ns sg) (I : inv N) : ∃ h', f_X0_turnMonth h k = some (nI (sp_month N).1, h') ∧ bk h' k (sp_month N).2 ns sg ∧ gfr (bkl k) h h' := by
  have i4 := I.2.2.2.1
  obtain ⟨-, r0, -⟩ := bk_rd H
  unfold f_X0_turnMonth
  rw [r0]
  simp only [Option.bind_some]
  unfold sp_month
  by_cases c : 99 ≤ N 11
  · rw [if_pos c, if_neg (by show ¬ nI (N 11) < nI 99; rw [nI_ltI (by omega) (by decide)]; omega)]
    exact ⟨h, rfl, H, gfr.refl _ _⟩
  · rw [if_neg c, if_pos (by show nI (N 11) < nI 99; rw [nI_ltI (by omega) (by decide)]; omega)]
    exact d_overs I gi_F 0 h (by omega) (by decide) H
end DEV2
