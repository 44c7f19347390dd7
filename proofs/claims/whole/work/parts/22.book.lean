theorem gu_ix {N : Nat → Nat} {ix : Nat → Nat} {i v x : Nat} (h : ix x = ix i → x = i) : gu (fun z => N (ix z)) i v x = gu N (ix i) v (ix x) := by
  unfold gu
  by_cases q : x = i
  · subst q; simp
  · rw [if_neg q, if_neg (fun z => q (h z))]
/-! A BOOK of the class in numbers: N as the reference lays them (0 odds, 6 cash, 10 funds, 11 month, 12 ended, 13 given, 14 standing, 15 + 4 p holder, life, sum, till), ns sights, sg three numbers a sight -/
def bkf (k : Nat) (N : Nat → Nat) (ns : Nat) : List Value := [.int (nI (N 11)), .int (nI (N 10)), .int (nI (N 12)), .int (nI (N 13)), .int (nI (N 14)), .int (nI ns), .ref (k + 1), .ref (k + 2), .ref (k + 3), .ref (k + 4), .ref (k + 5), .ref (k + 6), .ref (k + 7), .ref (k + 8), .ref (k + 9)]
def bkl (k : Nat) : List Nat := [k, k + 1, k + 2, k + 3, k + 4, k + 5, k + 6, k + 7, k + 8, k + 9]
def bk (h : gi_H) (k : Nat) (N : Nat → Nat) (ns : Nat) (sg : Nat → Nat) : Prop := go h k 0 (bkf k N ns) ∧ ga h (k + 1) 6 (fun i => N i) ∧ ga h (k + 2) 4 (fun i => N (6 + i)) ∧ ga h (k + 3) 12 (fun p => N (15 + 4 * p)) ∧ ga h (k + 4) 12 (fun p => N (16 + 4 * p)) ∧ ga h (k + 5) 12 (fun p => N (17 + 4 * p)) ∧ ga h (k + 6) 12 (fun p => N (18 + 4 * p)) ∧ ga h (k + 7) 8 (fun i => sg (3 * i)) ∧ ga h (k + 8) 8 (fun i => sg (3 * i + 1)) ∧ ga h (k + 9) 8 (fun i => sg (3 * i + 2))
theorem ga.cong {h : gi_H} {a n : Nat} {g g' : Nat → Nat} (H : ga h a n g) (e : ∀ i, i < n → g i = g' i) : ga h a n g' := by
  obtain ⟨f, h1, h2⟩ := H
  exact ⟨f, h1, fun i hi => by rw [h2 i hi, e i hi]⟩
theorem bk.keep {h h' : gi_H} {k : Nat} {N : Nat → Nat} {ns : Nat} {sg : Nat → Nat} (H : bk h k N ns sg) (e : ∀ j, j ∈ bkl k → h'[j]? = h[j]?) : bk h' k N ns sg := by
  obtain ⟨b0, b1, b2, b3, b4, b5, b6, b7, b8, b9⟩ := H
  exact ⟨b0.keep (e _ (by simp [bkl])), b1.keep (e _ (by simp [bkl])), b2.keep (e _ (by simp [bkl])), b3.keep (e _ (by simp [bkl])), b4.keep (e _ (by simp [bkl])), b5.keep (e _ (by simp [bkl])), b6.keep (e _ (by simp [bkl])), b7.keep (e _ (by simp [bkl])), b8.keep (e _ (by simp [bkl])), b9.keep (e _ (by simp [bkl]))⟩
theorem bk.fr {l : List Nat} {h h' : gi_H} {k : Nat} {N : Nat → Nat} {ns : Nat} {sg : Nat → Nat} (H : bk h k N ns sg) (f : gfr l h h') (e : ∀ j, j ∈ bkl k → j ∉ l) : bk h' k N ns sg := H.keep (fun j hj => f.2 j (e j hj))
theorem bk.cong {h : gi_H} {k : Nat} {N N' : Nat → Nat} {ns : Nat} {sg : Nat → Nat} (H : bk h k N ns sg) (e : ∀ i, i < 63 → N i = N' i) : bk h k N' ns sg := by
  obtain ⟨b0, b1, b2, b3, b4, b5, b6, b7, b8, b9⟩ := H
  refine ⟨?_, b1.cong (fun i hi => e _ (by omega)), b2.cong (fun i hi => e _ (by omega)), b3.cong (fun i hi => e _ (by omega)), b4.cong (fun i hi => e _ (by omega)), b5.cong (fun i hi => e _ (by omega)), b6.cong (fun i hi => e _ (by omega)), b7, b8, b9⟩
  unfold bkf at b0 ⊢
  rw [← e 10 (by omega), ← e 11 (by omega), ← e 12 (by omega), ← e 13 (by omega), ← e 14 (by omega)]
  exact b0
theorem bk_rd {h : gi_H} {k : Nat} {N : Nat → Nat} {ns : Nat} {sg : Nat → Nat} (H : bk h k N ns sg) : gi_is h k 0 = true ∧ gi_fI h k 0 0 = some (nI (N 11)) ∧ gi_fI h k 0 1 = some (nI (N 10)) ∧ gi_fI h k 0 2 = some (nI (N 12)) ∧ gi_fI h k 0 3 = some (nI (N 13)) ∧ gi_fI h k 0 4 = some (nI (N 14)) ∧ gi_fI h k 0 5 = some (nI (ns)) ∧ gi_fR h k 0 6 = some (k + 1) ∧ gi_fR h k 0 7 = some (k + 2) ∧ gi_fR h k 0 8 = some (k + 3) ∧ gi_fR h k 0 9 = some (k + 4) ∧ gi_fR h k 0 10 = some (k + 5) ∧ gi_fR h k 0 11 = some (k + 6) ∧ gi_fR h k 0 12 = some (k + 7) ∧ gi_fR h k 0 13 = some (k + 8) ∧ gi_fR h k 0 14 = some (k + 9) ∧ (∀ i, i < 6 → gi_ai h (k + 1) 0 (nI i) = some (nI (N i))) ∧ (∀ i, i < 4 → gi_ai h (k + 2) 0 (nI i) = some (nI (N (6 + i)))) ∧ (∀ i, i < 12 → gi_ai h (k + 3) 0 (nI i) = some (nI (N (15 + 4 * i)))) ∧ (∀ i, i < 12 → gi_ai h (k + 4) 0 (nI i) = some (nI (N (16 + 4 * i)))) ∧ (∀ i, i < 12 → gi_ai h (k + 5) 0 (nI i) = some (nI (N (17 + 4 * i)))) ∧ (∀ i, i < 12 → gi_ai h (k + 6) 0 (nI i) = some (nI (N (18 + 4 * i)))) ∧ (∀ i, i < 8 → gi_ai h (k + 7) 0 (nI i) = some (nI (sg (3 * i)))) ∧ (∀ i, i < 8 → gi_ai h (k + 8) 0 (nI i) = some (nI (sg (3 * i + 1)))) ∧ (∀ i, i < 8 → gi_ai h (k + 9) 0 (nI i) = some (nI (sg (3 * i + 2)))) := by
  obtain ⟨b0, b1, b2, b3, b4, b5, b6, b7, b8, b9⟩ := H
  exact ⟨go_is b0, go_fI b0 rfl, go_fI b0 rfl, go_fI b0 rfl, go_fI b0 rfl, go_fI b0 rfl, go_fI b0 rfl, go_fR b0 rfl, go_fR b0 rfl, go_fR b0 rfl, go_fR b0 rfl, go_fR b0 rfl, go_fR b0 rfl, go_fR b0 rfl, go_fR b0 rfl, go_fR b0 rfl, fun i hi => ga_rd b1 hi (by decide), fun i hi => ga_rd b2 hi (by decide), fun i hi => ga_rd b3 hi (by decide), fun i hi => ga_rd b4 hi (by decide), fun i hi => ga_rd b5 hi (by decide), fun i hi => ga_rd b6 hi (by decide), fun i hi => ga_rd b7 hi (by decide), fun i hi => ga_rd b8 hi (by decide), fun i hi => ga_rd b9 hi (by decide)⟩
theorem bk_w0 {h : gi_H} {k : Nat} {N : Nat → Nat} {ns : Nat} {sg : Nat → Nat} (H : bk h k N ns sg) (v : Nat) : ∃ h', gi_fp h k 0 0 (.int (nI v)) = some h' ∧ bk h' k (gu N 11 v) ns sg ∧ gfr (bkl k) h h' := by
  obtain ⟨b0, b1, b2, b3, b4, b5, b6, b7, b8, b9⟩ := H
  obtain ⟨h', e1, e2, e3⟩ := go_fp b0 (.int (nI v)) (k := 0) (by simp [bkf])
  have e4 := e3.mono (l' := bkl k) (by simp [bkl])
  refine ⟨h', e1, ⟨e2, ?_, ?_, ?_, ?_, ?_, ?_, b7.keep (e3.2 _ (by simp)), b8.keep (e3.2 _ (by simp)), b9.keep (e3.2 _ (by simp))⟩, e4⟩
  · exact (b1.keep (e3.2 _ (by simp))).cong (fun i hi => (gu_ne _ _ (by omega)).symm)
  · exact (b2.keep (e3.2 _ (by simp))).cong (fun i hi => (gu_ne _ _ (by omega)).symm)
  · exact (b3.keep (e3.2 _ (by simp))).cong (fun i hi => (gu_ne _ _ (by omega)).symm)
  · exact (b4.keep (e3.2 _ (by simp))).cong (fun i hi => (gu_ne _ _ (by omega)).symm)
  · exact (b5.keep (e3.2 _ (by simp))).cong (fun i hi => (gu_ne _ _ (by omega)).symm)
  · exact (b6.keep (e3.2 _ (by simp))).cong (fun i hi => (gu_ne _ _ (by omega)).symm)
theorem bk_w1 {h : gi_H} {k : Nat} {N : Nat → Nat} {ns : Nat} {sg : Nat → Nat} (H : bk h k N ns sg) (v : Nat) : ∃ h', gi_fp h k 0 1 (.int (nI v)) = some h' ∧ bk h' k (gu N 10 v) ns sg ∧ gfr (bkl k) h h' := by
  obtain ⟨b0, b1, b2, b3, b4, b5, b6, b7, b8, b9⟩ := H
  obtain ⟨h', e1, e2, e3⟩ := go_fp b0 (.int (nI v)) (k := 1) (by simp [bkf])
  have e4 := e3.mono (l' := bkl k) (by simp [bkl])
  refine ⟨h', e1, ⟨e2, ?_, ?_, ?_, ?_, ?_, ?_, b7.keep (e3.2 _ (by simp)), b8.keep (e3.2 _ (by simp)), b9.keep (e3.2 _ (by simp))⟩, e4⟩
  · exact (b1.keep (e3.2 _ (by simp))).cong (fun i hi => (gu_ne _ _ (by omega)).symm)
  · exact (b2.keep (e3.2 _ (by simp))).cong (fun i hi => (gu_ne _ _ (by omega)).symm)
  · exact (b3.keep (e3.2 _ (by simp))).cong (fun i hi => (gu_ne _ _ (by omega)).symm)
  · exact (b4.keep (e3.2 _ (by simp))).cong (fun i hi => (gu_ne _ _ (by omega)).symm)
  · exact (b5.keep (e3.2 _ (by simp))).cong (fun i hi => (gu_ne _ _ (by omega)).symm)
  · exact (b6.keep (e3.2 _ (by simp))).cong (fun i hi => (gu_ne _ _ (by omega)).symm)
theorem bk_w2 {h : gi_H} {k : Nat} {N : Nat → Nat} {ns : Nat} {sg : Nat → Nat} (H : bk h k N ns sg) (v : Nat) : ∃ h', gi_fp h k 0 2 (.int (nI v)) = some h' ∧ bk h' k (gu N 12 v) ns sg ∧ gfr (bkl k) h h' := by
  obtain ⟨b0, b1, b2, b3, b4, b5, b6, b7, b8, b9⟩ := H
  obtain ⟨h', e1, e2, e3⟩ := go_fp b0 (.int (nI v)) (k := 2) (by simp [bkf])
  have e4 := e3.mono (l' := bkl k) (by simp [bkl])
  refine ⟨h', e1, ⟨e2, ?_, ?_, ?_, ?_, ?_, ?_, b7.keep (e3.2 _ (by simp)), b8.keep (e3.2 _ (by simp)), b9.keep (e3.2 _ (by simp))⟩, e4⟩
  · exact (b1.keep (e3.2 _ (by simp))).cong (fun i hi => (gu_ne _ _ (by omega)).symm)
  · exact (b2.keep (e3.2 _ (by simp))).cong (fun i hi => (gu_ne _ _ (by omega)).symm)
  · exact (b3.keep (e3.2 _ (by simp))).cong (fun i hi => (gu_ne _ _ (by omega)).symm)
  · exact (b4.keep (e3.2 _ (by simp))).cong (fun i hi => (gu_ne _ _ (by omega)).symm)
  · exact (b5.keep (e3.2 _ (by simp))).cong (fun i hi => (gu_ne _ _ (by omega)).symm)
  · exact (b6.keep (e3.2 _ (by simp))).cong (fun i hi => (gu_ne _ _ (by omega)).symm)
theorem bk_w3 {h : gi_H} {k : Nat} {N : Nat → Nat} {ns : Nat} {sg : Nat → Nat} (H : bk h k N ns sg) (v : Nat) : ∃ h', gi_fp h k 0 3 (.int (nI v)) = some h' ∧ bk h' k (gu N 13 v) ns sg ∧ gfr (bkl k) h h' := by
  obtain ⟨b0, b1, b2, b3, b4, b5, b6, b7, b8, b9⟩ := H
  obtain ⟨h', e1, e2, e3⟩ := go_fp b0 (.int (nI v)) (k := 3) (by simp [bkf])
  have e4 := e3.mono (l' := bkl k) (by simp [bkl])
  refine ⟨h', e1, ⟨e2, ?_, ?_, ?_, ?_, ?_, ?_, b7.keep (e3.2 _ (by simp)), b8.keep (e3.2 _ (by simp)), b9.keep (e3.2 _ (by simp))⟩, e4⟩
  · exact (b1.keep (e3.2 _ (by simp))).cong (fun i hi => (gu_ne _ _ (by omega)).symm)
  · exact (b2.keep (e3.2 _ (by simp))).cong (fun i hi => (gu_ne _ _ (by omega)).symm)
  · exact (b3.keep (e3.2 _ (by simp))).cong (fun i hi => (gu_ne _ _ (by omega)).symm)
  · exact (b4.keep (e3.2 _ (by simp))).cong (fun i hi => (gu_ne _ _ (by omega)).symm)
  · exact (b5.keep (e3.2 _ (by simp))).cong (fun i hi => (gu_ne _ _ (by omega)).symm)
  · exact (b6.keep (e3.2 _ (by simp))).cong (fun i hi => (gu_ne _ _ (by omega)).symm)
theorem bk_w4 {h : gi_H} {k : Nat} {N : Nat → Nat} {ns : Nat} {sg : Nat → Nat} (H : bk h k N ns sg) (v : Nat) : ∃ h', gi_fp h k 0 4 (.int (nI v)) = some h' ∧ bk h' k (gu N 14 v) ns sg ∧ gfr (bkl k) h h' := by
  obtain ⟨b0, b1, b2, b3, b4, b5, b6, b7, b8, b9⟩ := H
  obtain ⟨h', e1, e2, e3⟩ := go_fp b0 (.int (nI v)) (k := 4) (by simp [bkf])
  have e4 := e3.mono (l' := bkl k) (by simp [bkl])
  refine ⟨h', e1, ⟨e2, ?_, ?_, ?_, ?_, ?_, ?_, b7.keep (e3.2 _ (by simp)), b8.keep (e3.2 _ (by simp)), b9.keep (e3.2 _ (by simp))⟩, e4⟩
  · exact (b1.keep (e3.2 _ (by simp))).cong (fun i hi => (gu_ne _ _ (by omega)).symm)
  · exact (b2.keep (e3.2 _ (by simp))).cong (fun i hi => (gu_ne _ _ (by omega)).symm)
  · exact (b3.keep (e3.2 _ (by simp))).cong (fun i hi => (gu_ne _ _ (by omega)).symm)
  · exact (b4.keep (e3.2 _ (by simp))).cong (fun i hi => (gu_ne _ _ (by omega)).symm)
  · exact (b5.keep (e3.2 _ (by simp))).cong (fun i hi => (gu_ne _ _ (by omega)).symm)
  · exact (b6.keep (e3.2 _ (by simp))).cong (fun i hi => (gu_ne _ _ (by omega)).symm)
theorem bk_w5 {h : gi_H} {k : Nat} {N : Nat → Nat} {ns : Nat} {sg : Nat → Nat} (H : bk h k N ns sg) (v : Nat) : ∃ h', gi_fp h k 0 5 (.int (nI v)) = some h' ∧ bk h' k N v sg ∧ gfr (bkl k) h h' := by
  obtain ⟨b0, b1, b2, b3, b4, b5, b6, b7, b8, b9⟩ := H
  obtain ⟨h', e1, e2, e3⟩ := go_fp b0 (.int (nI v)) (k := 5) (by simp [bkf])
  refine ⟨h', e1, ⟨e2, b1.keep (e3.2 _ (by simp)), b2.keep (e3.2 _ (by simp)), b3.keep (e3.2 _ (by simp)), b4.keep (e3.2 _ (by simp)), b5.keep (e3.2 _ (by simp)), b6.keep (e3.2 _ (by simp)), b7.keep (e3.2 _ (by simp)), b8.keep (e3.2 _ (by simp)), b9.keep (e3.2 _ (by simp))⟩, e3.mono (by simp [bkl])⟩
theorem bk_w6 {h : gi_H} {k : Nat} {N : Nat → Nat} {ns : Nat} {sg : Nat → Nat} (H : bk h k N ns sg) {i : Nat} (hi : i < 6) (v : Nat) : ∃ h', gi_pi h (k + 1) 0 (nI i) (nI v) = some h' ∧ bk h' k (gu N (i) v) ns sg ∧ gfr (bkl k) h h' := by
  obtain ⟨b0, b1, b2, b3, b4, b5, b6, b7, b8, b9⟩ := H
  obtain ⟨h', e1, e2, e3⟩ := ga_wr b1 hi (by decide) v
  refine ⟨h', e1, ⟨?_, ?_, ?_, ?_, ?_, ?_, ?_, b7.keep (e3.2 _ (by simp)), b8.keep (e3.2 _ (by simp)), b9.keep (e3.2 _ (by simp))⟩, e3.mono (by simp [bkl])⟩
  · have b0 := b0.keep (e3.2 _ (by simp))
    unfold bkf at b0 ⊢
    rw [gu_ne _ _ (show 10 ≠ i by omega), gu_ne _ _ (show 11 ≠ i by omega), gu_ne _ _ (show 12 ≠ i by omega), gu_ne _ _ (show 13 ≠ i by omega), gu_ne _ _ (show 14 ≠ i by omega)]
    exact b0
  · exact e2.cong (fun x hx => gu_ix (N := N) (ix := fun z => z) (fun q => by omega))
  · exact (b2.keep (e3.2 _ (by simp))).cong (fun x hx => (gu_ne _ _ (by omega)).symm)
  · exact (b3.keep (e3.2 _ (by simp))).cong (fun x hx => (gu_ne _ _ (by omega)).symm)
  · exact (b4.keep (e3.2 _ (by simp))).cong (fun x hx => (gu_ne _ _ (by omega)).symm)
  · exact (b5.keep (e3.2 _ (by simp))).cong (fun x hx => (gu_ne _ _ (by omega)).symm)
  · exact (b6.keep (e3.2 _ (by simp))).cong (fun x hx => (gu_ne _ _ (by omega)).symm)
theorem bk_w7 {h : gi_H} {k : Nat} {N : Nat → Nat} {ns : Nat} {sg : Nat → Nat} (H : bk h k N ns sg) {i : Nat} (hi : i < 4) (v : Nat) : ∃ h', gi_pi h (k + 2) 0 (nI i) (nI v) = some h' ∧ bk h' k (gu N (6 + i) v) ns sg ∧ gfr (bkl k) h h' := by
  obtain ⟨b0, b1, b2, b3, b4, b5, b6, b7, b8, b9⟩ := H
  obtain ⟨h', e1, e2, e3⟩ := ga_wr b2 hi (by decide) v
  refine ⟨h', e1, ⟨?_, ?_, ?_, ?_, ?_, ?_, ?_, b7.keep (e3.2 _ (by simp)), b8.keep (e3.2 _ (by simp)), b9.keep (e3.2 _ (by simp))⟩, e3.mono (by simp [bkl])⟩
  · have b0 := b0.keep (e3.2 _ (by simp))
    unfold bkf at b0 ⊢
    rw [gu_ne _ _ (show 10 ≠ 6 + i by omega), gu_ne _ _ (show 11 ≠ 6 + i by omega), gu_ne _ _ (show 12 ≠ 6 + i by omega), gu_ne _ _ (show 13 ≠ 6 + i by omega), gu_ne _ _ (show 14 ≠ 6 + i by omega)]
    exact b0
  · exact (b1.keep (e3.2 _ (by simp))).cong (fun x hx => (gu_ne _ _ (by omega)).symm)
  · exact e2.cong (fun x hx => gu_ix (N := N) (ix := fun z => 6 + z) (fun q => by omega))
  · exact (b3.keep (e3.2 _ (by simp))).cong (fun x hx => (gu_ne _ _ (by omega)).symm)
  · exact (b4.keep (e3.2 _ (by simp))).cong (fun x hx => (gu_ne _ _ (by omega)).symm)
  · exact (b5.keep (e3.2 _ (by simp))).cong (fun x hx => (gu_ne _ _ (by omega)).symm)
  · exact (b6.keep (e3.2 _ (by simp))).cong (fun x hx => (gu_ne _ _ (by omega)).symm)
theorem bk_w8 {h : gi_H} {k : Nat} {N : Nat → Nat} {ns : Nat} {sg : Nat → Nat} (H : bk h k N ns sg) {i : Nat} (hi : i < 12) (v : Nat) : ∃ h', gi_pi h (k + 3) 0 (nI i) (nI v) = some h' ∧ bk h' k (gu N (15 + 4 * i) v) ns sg ∧ gfr (bkl k) h h' := by
  obtain ⟨b0, b1, b2, b3, b4, b5, b6, b7, b8, b9⟩ := H
  obtain ⟨h', e1, e2, e3⟩ := ga_wr b3 hi (by decide) v
  refine ⟨h', e1, ⟨?_, ?_, ?_, ?_, ?_, ?_, ?_, b7.keep (e3.2 _ (by simp)), b8.keep (e3.2 _ (by simp)), b9.keep (e3.2 _ (by simp))⟩, e3.mono (by simp [bkl])⟩
  · have b0 := b0.keep (e3.2 _ (by simp))
    unfold bkf at b0 ⊢
    rw [gu_ne _ _ (show 10 ≠ 15 + 4 * i by omega), gu_ne _ _ (show 11 ≠ 15 + 4 * i by omega), gu_ne _ _ (show 12 ≠ 15 + 4 * i by omega), gu_ne _ _ (show 13 ≠ 15 + 4 * i by omega), gu_ne _ _ (show 14 ≠ 15 + 4 * i by omega)]
    exact b0
  · exact (b1.keep (e3.2 _ (by simp))).cong (fun x hx => (gu_ne _ _ (by omega)).symm)
  · exact (b2.keep (e3.2 _ (by simp))).cong (fun x hx => (gu_ne _ _ (by omega)).symm)
  · exact e2.cong (fun x hx => gu_ix (N := N) (ix := fun z => 15 + 4 * z) (fun q => by omega))
  · exact (b4.keep (e3.2 _ (by simp))).cong (fun x hx => (gu_ne _ _ (by omega)).symm)
  · exact (b5.keep (e3.2 _ (by simp))).cong (fun x hx => (gu_ne _ _ (by omega)).symm)
  · exact (b6.keep (e3.2 _ (by simp))).cong (fun x hx => (gu_ne _ _ (by omega)).symm)
theorem bk_w9 {h : gi_H} {k : Nat} {N : Nat → Nat} {ns : Nat} {sg : Nat → Nat} (H : bk h k N ns sg) {i : Nat} (hi : i < 12) (v : Nat) : ∃ h', gi_pi h (k + 4) 0 (nI i) (nI v) = some h' ∧ bk h' k (gu N (16 + 4 * i) v) ns sg ∧ gfr (bkl k) h h' := by
  obtain ⟨b0, b1, b2, b3, b4, b5, b6, b7, b8, b9⟩ := H
  obtain ⟨h', e1, e2, e3⟩ := ga_wr b4 hi (by decide) v
  refine ⟨h', e1, ⟨?_, ?_, ?_, ?_, ?_, ?_, ?_, b7.keep (e3.2 _ (by simp)), b8.keep (e3.2 _ (by simp)), b9.keep (e3.2 _ (by simp))⟩, e3.mono (by simp [bkl])⟩
  · have b0 := b0.keep (e3.2 _ (by simp))
    unfold bkf at b0 ⊢
    rw [gu_ne _ _ (show 10 ≠ 16 + 4 * i by omega), gu_ne _ _ (show 11 ≠ 16 + 4 * i by omega), gu_ne _ _ (show 12 ≠ 16 + 4 * i by omega), gu_ne _ _ (show 13 ≠ 16 + 4 * i by omega), gu_ne _ _ (show 14 ≠ 16 + 4 * i by omega)]
    exact b0
  · exact (b1.keep (e3.2 _ (by simp))).cong (fun x hx => (gu_ne _ _ (by omega)).symm)
  · exact (b2.keep (e3.2 _ (by simp))).cong (fun x hx => (gu_ne _ _ (by omega)).symm)
  · exact (b3.keep (e3.2 _ (by simp))).cong (fun x hx => (gu_ne _ _ (by omega)).symm)
  · exact e2.cong (fun x hx => gu_ix (N := N) (ix := fun z => 16 + 4 * z) (fun q => by omega))
  · exact (b5.keep (e3.2 _ (by simp))).cong (fun x hx => (gu_ne _ _ (by omega)).symm)
  · exact (b6.keep (e3.2 _ (by simp))).cong (fun x hx => (gu_ne _ _ (by omega)).symm)
theorem bk_w10 {h : gi_H} {k : Nat} {N : Nat → Nat} {ns : Nat} {sg : Nat → Nat} (H : bk h k N ns sg) {i : Nat} (hi : i < 12) (v : Nat) : ∃ h', gi_pi h (k + 5) 0 (nI i) (nI v) = some h' ∧ bk h' k (gu N (17 + 4 * i) v) ns sg ∧ gfr (bkl k) h h' := by
  obtain ⟨b0, b1, b2, b3, b4, b5, b6, b7, b8, b9⟩ := H
  obtain ⟨h', e1, e2, e3⟩ := ga_wr b5 hi (by decide) v
  refine ⟨h', e1, ⟨?_, ?_, ?_, ?_, ?_, ?_, ?_, b7.keep (e3.2 _ (by simp)), b8.keep (e3.2 _ (by simp)), b9.keep (e3.2 _ (by simp))⟩, e3.mono (by simp [bkl])⟩
  · have b0 := b0.keep (e3.2 _ (by simp))
    unfold bkf at b0 ⊢
    rw [gu_ne _ _ (show 10 ≠ 17 + 4 * i by omega), gu_ne _ _ (show 11 ≠ 17 + 4 * i by omega), gu_ne _ _ (show 12 ≠ 17 + 4 * i by omega), gu_ne _ _ (show 13 ≠ 17 + 4 * i by omega), gu_ne _ _ (show 14 ≠ 17 + 4 * i by omega)]
    exact b0
  · exact (b1.keep (e3.2 _ (by simp))).cong (fun x hx => (gu_ne _ _ (by omega)).symm)
  · exact (b2.keep (e3.2 _ (by simp))).cong (fun x hx => (gu_ne _ _ (by omega)).symm)
  · exact (b3.keep (e3.2 _ (by simp))).cong (fun x hx => (gu_ne _ _ (by omega)).symm)
  · exact (b4.keep (e3.2 _ (by simp))).cong (fun x hx => (gu_ne _ _ (by omega)).symm)
  · exact e2.cong (fun x hx => gu_ix (N := N) (ix := fun z => 17 + 4 * z) (fun q => by omega))
  · exact (b6.keep (e3.2 _ (by simp))).cong (fun x hx => (gu_ne _ _ (by omega)).symm)
theorem bk_w11 {h : gi_H} {k : Nat} {N : Nat → Nat} {ns : Nat} {sg : Nat → Nat} (H : bk h k N ns sg) {i : Nat} (hi : i < 12) (v : Nat) : ∃ h', gi_pi h (k + 6) 0 (nI i) (nI v) = some h' ∧ bk h' k (gu N (18 + 4 * i) v) ns sg ∧ gfr (bkl k) h h' := by
  obtain ⟨b0, b1, b2, b3, b4, b5, b6, b7, b8, b9⟩ := H
  obtain ⟨h', e1, e2, e3⟩ := ga_wr b6 hi (by decide) v
  refine ⟨h', e1, ⟨?_, ?_, ?_, ?_, ?_, ?_, ?_, b7.keep (e3.2 _ (by simp)), b8.keep (e3.2 _ (by simp)), b9.keep (e3.2 _ (by simp))⟩, e3.mono (by simp [bkl])⟩
  · have b0 := b0.keep (e3.2 _ (by simp))
    unfold bkf at b0 ⊢
    rw [gu_ne _ _ (show 10 ≠ 18 + 4 * i by omega), gu_ne _ _ (show 11 ≠ 18 + 4 * i by omega), gu_ne _ _ (show 12 ≠ 18 + 4 * i by omega), gu_ne _ _ (show 13 ≠ 18 + 4 * i by omega), gu_ne _ _ (show 14 ≠ 18 + 4 * i by omega)]
    exact b0
  · exact (b1.keep (e3.2 _ (by simp))).cong (fun x hx => (gu_ne _ _ (by omega)).symm)
  · exact (b2.keep (e3.2 _ (by simp))).cong (fun x hx => (gu_ne _ _ (by omega)).symm)
  · exact (b3.keep (e3.2 _ (by simp))).cong (fun x hx => (gu_ne _ _ (by omega)).symm)
  · exact (b4.keep (e3.2 _ (by simp))).cong (fun x hx => (gu_ne _ _ (by omega)).symm)
  · exact (b5.keep (e3.2 _ (by simp))).cong (fun x hx => (gu_ne _ _ (by omega)).symm)
  · exact e2.cong (fun x hx => gu_ix (N := N) (ix := fun z => 18 + 4 * z) (fun q => by omega))
theorem bk_w12 {h : gi_H} {k : Nat} {N : Nat → Nat} {ns : Nat} {sg : Nat → Nat} (H : bk h k N ns sg) {i : Nat} (hi : i < 8) (v : Nat) : ∃ h', gi_pi h (k + 7) 0 (nI i) (nI v) = some h' ∧ bk h' k N ns (gu sg (3 * i) v) ∧ gfr (bkl k) h h' := by
  obtain ⟨b0, b1, b2, b3, b4, b5, b6, b7, b8, b9⟩ := H
  obtain ⟨h', e1, e2, e3⟩ := ga_wr b7 hi (by decide) v
  refine ⟨h', e1, ⟨b0.keep (e3.2 _ (by simp)), b1.keep (e3.2 _ (by simp)), b2.keep (e3.2 _ (by simp)), b3.keep (e3.2 _ (by simp)), b4.keep (e3.2 _ (by simp)), b5.keep (e3.2 _ (by simp)), b6.keep (e3.2 _ (by simp)), ?_, ?_, ?_⟩, e3.mono (by simp [bkl])⟩
  · exact e2.cong (fun x hx => gu_ix (N := sg) (ix := fun z => 3 * z) (fun q => by omega))
  · exact (b8.keep (e3.2 _ (by simp))).cong (fun x hx => (gu_ne _ _ (by omega)).symm)
  · exact (b9.keep (e3.2 _ (by simp))).cong (fun x hx => (gu_ne _ _ (by omega)).symm)
theorem bk_w13 {h : gi_H} {k : Nat} {N : Nat → Nat} {ns : Nat} {sg : Nat → Nat} (H : bk h k N ns sg) {i : Nat} (hi : i < 8) (v : Nat) : ∃ h', gi_pi h (k + 8) 0 (nI i) (nI v) = some h' ∧ bk h' k N ns (gu sg (3 * i + 1) v) ∧ gfr (bkl k) h h' := by
  obtain ⟨b0, b1, b2, b3, b4, b5, b6, b7, b8, b9⟩ := H
  obtain ⟨h', e1, e2, e3⟩ := ga_wr b8 hi (by decide) v
  refine ⟨h', e1, ⟨b0.keep (e3.2 _ (by simp)), b1.keep (e3.2 _ (by simp)), b2.keep (e3.2 _ (by simp)), b3.keep (e3.2 _ (by simp)), b4.keep (e3.2 _ (by simp)), b5.keep (e3.2 _ (by simp)), b6.keep (e3.2 _ (by simp)), ?_, ?_, ?_⟩, e3.mono (by simp [bkl])⟩
  · exact (b7.keep (e3.2 _ (by simp))).cong (fun x hx => (gu_ne _ _ (by omega)).symm)
  · exact e2.cong (fun x hx => gu_ix (N := sg) (ix := fun z => 3 * z + 1) (fun q => by omega))
  · exact (b9.keep (e3.2 _ (by simp))).cong (fun x hx => (gu_ne _ _ (by omega)).symm)
theorem bk_w14 {h : gi_H} {k : Nat} {N : Nat → Nat} {ns : Nat} {sg : Nat → Nat} (H : bk h k N ns sg) {i : Nat} (hi : i < 8) (v : Nat) : ∃ h', gi_pi h (k + 9) 0 (nI i) (nI v) = some h' ∧ bk h' k N ns (gu sg (3 * i + 2) v) ∧ gfr (bkl k) h h' := by
  obtain ⟨b0, b1, b2, b3, b4, b5, b6, b7, b8, b9⟩ := H
  obtain ⟨h', e1, e2, e3⟩ := ga_wr b9 hi (by decide) v
  refine ⟨h', e1, ⟨b0.keep (e3.2 _ (by simp)), b1.keep (e3.2 _ (by simp)), b2.keep (e3.2 _ (by simp)), b3.keep (e3.2 _ (by simp)), b4.keep (e3.2 _ (by simp)), b5.keep (e3.2 _ (by simp)), b6.keep (e3.2 _ (by simp)), ?_, ?_, ?_⟩, e3.mono (by simp [bkl])⟩
  · exact (b7.keep (e3.2 _ (by simp))).cong (fun x hx => (gu_ne _ _ (by omega)).symm)
  · exact (b8.keep (e3.2 _ (by simp))).cong (fun x hx => (gu_ne _ _ (by omega)).symm)
  · exact e2.cong (fun x hx => gu_ix (N := sg) (ix := fun z => 3 * z + 2) (fun q => by omega))
