/-! BOTH OBJECTS SIDE BY SIDE: what holds between two calls -/
abbrev gi_Im : Type := Option (Nat × (Nat → Nat) × Nat × (Nat → Nat))
def sgok (ns : Nat) (sg : Nat → Nat) : Prop := ns ≤ 8 ∧ ∀ i, i < 8 → sg (3 * i) < 4 ∧ sg (3 * i + 1) < 6 ∧ sg (3 * i + 2) ≤ 999
def cls5 : List Value := [.ref 2, .ref 12, .ref 23, .ref 25, .ref 28, .ref 30]
def Core (h : gi_H) (c0 : va_E) (N : Nat → Nat) (ns : Nat) (sg : Nat → Nat) (np : Nat) (P : Nat → Nat) (im : Nat → gi_Im) (IM : Nat → Nat) : Prop :=
  (h.length = 40 + (if (im 0).isSome then 10 else 0) + (if (im 1).isSome then 10 else 0)) ∧
  (h[0]? = some c0) ∧
  (go h 1 5 cls5) ∧
  (bk h 2 N ns sg) ∧
  (inv N) ∧
  (sgok ns sg) ∧
  (go h 23 3 (pf np)) ∧
  (ga h 24 60 P) ∧
  (∀ i, i < 60 → P i < 127) ∧
  (np ≤ 60) ∧
  (go h 25 2 [.ref 26, .ref 27]) ∧
  (go h 28 4 [.ref 29]) ∧
  (∃ f : Nat → Option Nat, h[30]? = some (.inl (3, 2, .inr (.inr (.inr (.inr f))))) ∧ ∀ i, i < 2 → f i = (im i).map (fun x => x.1)) ∧
  (ga h 32 63 N) ∧
  (ga h 34 24 sg) ∧
  (ga h 35 60 P) ∧
  (ga h 38 200 IM) ∧
  (∃ f : Nat → Int32, h[39]? = some (.inl (2, 2, .inl f)) ∧ ∀ i, i < 2 → f i = if (im i).isSome then 1 else 0) ∧
  (∀ i, i < 2 → ∀ k N' ns' sg', im i = some (k, N', ns', sg') → 40 ≤ k ∧ k + 10 ≤ h.length ∧ bk h k N' ns' sg' ∧ inv N' ∧ sgok ns' sg' ∧ (∀ j, j < 63 → IM (100 * i + j) = N' j) ∧ (∀ j, j < 24 → IM (100 * i + 63 + j) = sg' j) ∧ IM (100 * i + 90) = ns') ∧
  (∀ a b, im 0 = some a → im 1 = some b → a.1 + 10 ≤ b.1 ∨ b.1 + 10 ≤ a.1)
theorem Core.len {h : gi_H} {c0 : va_E} {N : Nat → Nat} {ns : Nat} {sg : Nat → Nat} {np : Nat} {P : Nat → Nat} {im : Nat → gi_Im} {IM : Nat → Nat} (K : Core h c0 N ns sg np P im IM) : h.length = 40 + (if (im 0).isSome then 10 else 0) + (if (im 1).isSome then 10 else 0) := K.1
theorem Core.c0 {h : gi_H} {c0 : va_E} {N : Nat → Nat} {ns : Nat} {sg : Nat → Nat} {np : Nat} {P : Nat → Nat} {im : Nat → gi_Im} {IM : Nat → Nat} (K : Core h c0 N ns sg np P im IM) : h[0]? = some c0 := K.2.1
theorem Core.cls {h : gi_H} {c0 : va_E} {N : Nat → Nat} {ns : Nat} {sg : Nat → Nat} {np : Nat} {P : Nat → Nat} {im : Nat → gi_Im} {IM : Nat → Nat} (K : Core h c0 N ns sg np P im IM) : go h 1 5 cls5 := K.2.2.1
theorem Core.bok {h : gi_H} {c0 : va_E} {N : Nat → Nat} {ns : Nat} {sg : Nat → Nat} {np : Nat} {P : Nat → Nat} {im : Nat → gi_Im} {IM : Nat → Nat} (K : Core h c0 N ns sg np P im IM) : bk h 2 N ns sg := K.2.2.2.1
theorem Core.iv {h : gi_H} {c0 : va_E} {N : Nat → Nat} {ns : Nat} {sg : Nat → Nat} {np : Nat} {P : Nat → Nat} {im : Nat → gi_Im} {IM : Nat → Nat} (K : Core h c0 N ns sg np P im IM) : inv N := K.2.2.2.2.1
theorem Core.sgl {h : gi_H} {c0 : va_E} {N : Nat → Nat} {ns : Nat} {sg : Nat → Nat} {np : Nat} {P : Nat → Nat} {im : Nat → gi_Im} {IM : Nat → Nat} (K : Core h c0 N ns sg np P im IM) : sgok ns sg := K.2.2.2.2.2.1
theorem Core.pad {h : gi_H} {c0 : va_E} {N : Nat → Nat} {ns : Nat} {sg : Nat → Nat} {np : Nat} {P : Nat → Nat} {im : Nat → gi_Im} {IM : Nat → Nat} (K : Core h c0 N ns sg np P im IM) : go h 23 3 (pf np) := K.2.2.2.2.2.2.1
theorem Core.pds {h : gi_H} {c0 : va_E} {N : Nat → Nat} {ns : Nat} {sg : Nat → Nat} {np : Nat} {P : Nat → Nat} {im : Nat → gi_Im} {IM : Nat → Nat} (K : Core h c0 N ns sg np P im IM) : ga h 24 60 P := K.2.2.2.2.2.2.2.1
theorem Core.hP {h : gi_H} {c0 : va_E} {N : Nat → Nat} {ns : Nat} {sg : Nat → Nat} {np : Nat} {P : Nat → Nat} {im : Nat → gi_Im} {IM : Nat → Nat} (K : Core h c0 N ns sg np P im IM) : ∀ i, i < 60 → P i < 127 := K.2.2.2.2.2.2.2.2.1
theorem Core.npl {h : gi_H} {c0 : va_E} {N : Nat → Nat} {ns : Nat} {sg : Nat → Nat} {np : Nat} {P : Nat → Nat} {im : Nat → gi_Im} {IM : Nat → Nat} (K : Core h c0 N ns sg np P im IM) : np ≤ 60 := K.2.2.2.2.2.2.2.2.2.1
theorem Core.off {h : gi_H} {c0 : va_E} {N : Nat → Nat} {ns : Nat} {sg : Nat → Nat} {np : Nat} {P : Nat → Nat} {im : Nat → gi_Im} {IM : Nat → Nat} (K : Core h c0 N ns sg np P im IM) : go h 25 2 [.ref 26, .ref 27] := K.2.2.2.2.2.2.2.2.2.2.1
theorem Core.wor {h : gi_H} {c0 : va_E} {N : Nat → Nat} {ns : Nat} {sg : Nat → Nat} {np : Nat} {P : Nat → Nat} {im : Nat → gi_Im} {IM : Nat → Nat} (K : Core h c0 N ns sg np P im IM) : go h 28 4 [.ref 29] := K.2.2.2.2.2.2.2.2.2.2.2.1
theorem Core.img {h : gi_H} {c0 : va_E} {N : Nat → Nat} {ns : Nat} {sg : Nat → Nat} {np : Nat} {P : Nat → Nat} {im : Nat → gi_Im} {IM : Nat → Nat} (K : Core h c0 N ns sg np P im IM) : ∃ f : Nat → Option Nat, h[30]? = some (.inl (3, 2, .inr (.inr (.inr (.inr f))))) ∧ ∀ i, i < 2 → f i = (im i).map (fun x => x.1) := K.2.2.2.2.2.2.2.2.2.2.2.2.1
theorem Core.mbk {h : gi_H} {c0 : va_E} {N : Nat → Nat} {ns : Nat} {sg : Nat → Nat} {np : Nat} {P : Nat → Nat} {im : Nat → gi_Im} {IM : Nat → Nat} (K : Core h c0 N ns sg np P im IM) : ga h 32 63 N := K.2.2.2.2.2.2.2.2.2.2.2.2.2.1
theorem Core.msg {h : gi_H} {c0 : va_E} {N : Nat → Nat} {ns : Nat} {sg : Nat → Nat} {np : Nat} {P : Nat → Nat} {im : Nat → gi_Im} {IM : Nat → Nat} (K : Core h c0 N ns sg np P im IM) : ga h 34 24 sg := K.2.2.2.2.2.2.2.2.2.2.2.2.2.2.1
theorem Core.mpd {h : gi_H} {c0 : va_E} {N : Nat → Nat} {ns : Nat} {sg : Nat → Nat} {np : Nat} {P : Nat → Nat} {im : Nat → gi_Im} {IM : Nat → Nat} (K : Core h c0 N ns sg np P im IM) : ga h 35 60 P := K.2.2.2.2.2.2.2.2.2.2.2.2.2.2.2.1
theorem Core.mim {h : gi_H} {c0 : va_E} {N : Nat → Nat} {ns : Nat} {sg : Nat → Nat} {np : Nat} {P : Nat → Nat} {im : Nat → gi_Im} {IM : Nat → Nat} (K : Core h c0 N ns sg np P im IM) : ga h 38 200 IM := K.2.2.2.2.2.2.2.2.2.2.2.2.2.2.2.2.1
theorem Core.mkp {h : gi_H} {c0 : va_E} {N : Nat → Nat} {ns : Nat} {sg : Nat → Nat} {np : Nat} {P : Nat → Nat} {im : Nat → gi_Im} {IM : Nat → Nat} (K : Core h c0 N ns sg np P im IM) : ∃ f : Nat → Int32, h[39]? = some (.inl (2, 2, .inl f)) ∧ ∀ i, i < 2 → f i = if (im i).isSome then 1 else 0 := K.2.2.2.2.2.2.2.2.2.2.2.2.2.2.2.2.2.1
theorem Core.ims {h : gi_H} {c0 : va_E} {N : Nat → Nat} {ns : Nat} {sg : Nat → Nat} {np : Nat} {P : Nat → Nat} {im : Nat → gi_Im} {IM : Nat → Nat} (K : Core h c0 N ns sg np P im IM) : ∀ i, i < 2 → ∀ k N' ns' sg', im i = some (k, N', ns', sg') → 40 ≤ k ∧ k + 10 ≤ h.length ∧ bk h k N' ns' sg' ∧ inv N' ∧ sgok ns' sg' ∧ (∀ j, j < 63 → IM (100 * i + j) = N' j) ∧ (∀ j, j < 24 → IM (100 * i + 63 + j) = sg' j) ∧ IM (100 * i + 90) = ns' := K.2.2.2.2.2.2.2.2.2.2.2.2.2.2.2.2.2.2.1
theorem Core.dis {h : gi_H} {c0 : va_E} {N : Nat → Nat} {ns : Nat} {sg : Nat → Nat} {np : Nat} {P : Nat → Nat} {im : Nat → gi_Im} {IM : Nat → Nat} (K : Core h c0 N ns sg np P im IM) : ∀ a b, im 0 = some a → im 1 = some b → a.1 + 10 ≤ b.1 ∨ b.1 + 10 ≤ a.1 := K.2.2.2.2.2.2.2.2.2.2.2.2.2.2.2.2.2.2.2
def Scr (h : gi_H) (ns np : Nat) : Prop := (∃ a b c d e, go h 12 1 (cf a b c d e)) ∧ (∃ N ns sg, bk h 13 N ns sg) ∧ (∃ g, ga h 26 6 g) ∧ (∃ f : Nat → Int64, h[27]? = some (.inl (1, 6, .inr (.inl f)))) ∧ (∃ g, ga h 29 109 g) ∧ (∃ a b c d e u, go h 31 6 (mf ns np a b c d e u)) ∧ (∃ g, ga h 33 63 g) ∧ (∃ g, ga h 36 24 g) ∧ (∃ g, ga h 37 4 g)
def SS (h : gi_H) (c0 : va_E) : Prop := ∃ N ns sg np P im IM, Core h c0 N ns sg np P im IM ∧ Scr h ns np
def scrl : List Nat := [12, 13, 14, 15, 16, 17, 18, 19, 20, 21, 22, 26, 27, 29, 31, 33, 36, 37]
section STATE
variable {h : gi_H} {c0 : va_E} {N : Nat → Nat} {ns : Nat} {sg : Nat → Nat} {np : Nat} {P : Nat → Nat} {im : Nat → gi_Im} {IM : Nat → Nat}
theorem Core.fr (K : Core h c0 N ns sg np P im IM) {l : List Nat} {h' : gi_H} (f : gfr l h h') (hl : ∀ j ∈ l, j ∈ scrl) : Core h' c0 N ns sg np P im IM := by
  have f := f.mono hl
  refine ⟨by rw [f.1]; exact K.len, by rw [f.2 0 (by decide)]; exact K.c0, K.cls.fr f (by decide), K.bok.fr f (by decide), K.iv, K.sgl, K.pad.fr f (by decide), K.pds.fr f (by decide), K.hP, K.npl, K.off.fr f (by decide), K.wor.fr f (by decide), ?_, K.mbk.fr f (by decide), K.msg.fr f (by decide), K.mpd.fr f (by decide), K.mim.fr f (by decide), ?_, ?_, K.dis⟩
  · rw [f.2 30 (by decide)]; exact K.img
  · rw [f.2 39 (by decide)]; exact K.mkp
  · intro i hi k N' ns' sg' e
    obtain ⟨a1, a2, a3, a4⟩ := K.ims i hi k N' ns' sg' e
    refine ⟨a1, by rw [f.1]; exact a2, a3.fr f ?_, a4⟩
    intro j hj z
    have : j < 40 := by
      simp only [scrl, List.mem_cons, List.not_mem_nil, or_false] at z
      omega
    simp only [bkl, List.mem_cons, List.not_mem_nil, or_false] at hj
    omega
theorem cls_rd (K : Core h c0 N ns sg np P im IM) : gi_is h 1 5 = true ∧ gi_fR h 1 5 0 = some 2 ∧ gi_fR h 1 5 1 = some 12 ∧ gi_fR h 1 5 2 = some 23 ∧ gi_fR h 1 5 3 = some 25 ∧ gi_fR h 1 5 4 = some 28 ∧ gi_fR h 1 5 5 = some 30 := ⟨go_is K.cls, go_fR K.cls rfl, go_fR K.cls rfl, go_fR K.cls rfl, go_fR K.cls rfl, go_fR K.cls rfl, go_fR K.cls rfl⟩
/-- a number of the book is put on both sides -/
theorem Core.put (K : Core h c0 N ns sg np P im IM) {N' : Nat → Nat} {ns' : Nat} {sg' : Nat → Nat} {h' : gi_H} (f : gfr (31 :: 32 :: 34 :: bkl 2) h h') (B : bk h' 2 N' ns' sg') (M : ga h' 32 63 N') (Q : ga h' 34 24 sg') (I : inv N') (sgl : sgok ns' sg') : Core h' c0 N' ns' sg' np P im IM := by
  refine ⟨by rw [f.1]; exact K.len, by rw [f.2 0 (by decide)]; exact K.c0, K.cls.fr f (by decide), B, I, sgl, K.pad.fr f (by decide), K.pds.fr f (by decide), K.hP, K.npl, K.off.fr f (by decide), K.wor.fr f (by decide), ?_, M, Q, K.mpd.fr f (by decide), K.mim.fr f (by decide), ?_, ?_, K.dis⟩
  · rw [f.2 30 (by decide)]; exact K.img
  · rw [f.2 39 (by decide)]; exact K.mkp
  · intro i hi k N' ns' sg' e
    obtain ⟨a1, a2, a3, a4⟩ := K.ims i hi k N' ns' sg' e
    refine ⟨a1, by rw [f.1]; exact a2, a3.fr f ?_, a4⟩
    intro j hj z
    simp only [bkl, List.mem_cons, List.not_mem_nil, or_false] at hj z
    omega
theorem Scr.fr {l : List Nat} {h' : gi_H} (S : Scr h ns np) (f : gfr l h h') (hl : ∀ j ∈ scrl, j ∉ l) : Scr h' ns np := by
  obtain ⟨⟨a, b, c, d, e, s1⟩, ⟨x, y, z, s2⟩, ⟨g1, s3⟩, ⟨g2, s4⟩, ⟨g3, s5⟩, ⟨a', b', c', d', e', u', s6⟩, ⟨g4, s7⟩, ⟨g5, s8⟩, ⟨g6, s9⟩⟩ := S
  exact ⟨⟨a, b, c, d, e, s1.fr f (hl _ (by decide))⟩, ⟨x, y, z, s2.fr f (fun j hj => hl j (by simp only [bkl, List.mem_cons, List.not_mem_nil, or_false] at hj; simp only [scrl, List.mem_cons, List.not_mem_nil, or_false]; omega))⟩, ⟨g1, s3.fr f (hl _ (by decide))⟩, ⟨g2, by rw [f.2 _ (hl _ (by decide))]; exact s4⟩, ⟨g3, s5.fr f (hl _ (by decide))⟩, ⟨a', b', c', d', e', u', s6.fr f (hl _ (by decide))⟩, ⟨g4, s7.fr f (hl _ (by decide))⟩, ⟨g5, s8.fr f (hl _ (by decide))⟩, ⟨g6, s9.fr f (hl _ (by decide))⟩⟩
/-- the same, the reference's object apart -/
theorem Scr.fr31 {l : List Nat} {h' : gi_H} {ns' np' : Nat} (S : Scr h ns np) (f : gfr l h h') (hl : ∀ j ∈ scrl, j ≠ 31 → j ∉ l) (G : ∃ a b c d e u, go h' 31 6 (mf ns' np' a b c d e u)) : Scr h' ns' np' := by
  obtain ⟨⟨a, b, c, d, e, s1⟩, ⟨x, y, z, s2⟩, ⟨g1, s3⟩, ⟨g2, s4⟩, ⟨g3, s5⟩, -, ⟨g4, s7⟩, ⟨g5, s8⟩, ⟨g6, s9⟩⟩ := S
  exact ⟨⟨a, b, c, d, e, s1.fr f (hl _ (by decide) (by decide))⟩, ⟨x, y, z, s2.fr f (fun j hj => hl j (by simp only [bkl, List.mem_cons, List.not_mem_nil, or_false] at hj; simp only [scrl, List.mem_cons, List.not_mem_nil, or_false]; omega) (by simp only [bkl, List.mem_cons, List.not_mem_nil, or_false] at hj; omega))⟩, ⟨g1, s3.fr f (hl _ (by decide) (by decide))⟩, ⟨g2, by rw [f.2 _ (hl _ (by decide) (by decide))]; exact s4⟩, ⟨g3, s5.fr f (hl _ (by decide) (by decide))⟩, G, ⟨g4, s7.fr f (hl _ (by decide) (by decide))⟩, ⟨g5, s8.fr f (hl _ (by decide) (by decide))⟩, ⟨g6, s9.fr f (hl _ (by decide) (by decide))⟩⟩
/-- what a call comes to: both write -/
def WW {α : Type} (h : gi_H) (c0 : va_E) (A : gi_H → Option (α × gi_H)) (B : gi_H → Option (α × gi_H)) : Prop := ∃ v h1 h2, A h = some (v, h1) ∧ h1[0]? = some c0 ∧ gi_is h1 31 6 = true ∧ B h1 = some (v, h2) ∧ SS h2 c0
def RR {α : Type} (A B : Option α) : Prop := ∃ v, A = some v ∧ B = some v
def RW {α : Type} (c0 : va_E) (A : Option α) (B : Option (α × gi_H)) : Prop := ∃ v h2, A = some v ∧ B = some (v, h2) ∧ SS h2 c0
def WR {α : Type} (h : gi_H) (c0 : va_E) (A : gi_H → Option (α × gi_H)) (B : gi_H → Option α) : Prop := ∃ v h1, A h = some (v, h1) ∧ gi_is h1 31 6 = true ∧ B h1 = some v ∧ SS h1 c0
theorem WW.same {α : Type} {A B : gi_H → Option (α × gi_H)} (K : Core h c0 N ns sg np P im IM) (S : Scr h ns np) {v : α} (e1 : A h = some (v, h)) (e2 : B h = some (v, h)) : WW h c0 A B := by
  obtain ⟨-, -, -, -, -, ⟨a, b, c, d, e, u, G⟩, -⟩ := id S
  exact ⟨v, h, h, e1, K.c0, go_is G, e2, N, ns, sg, np, P, im, IM, K, S⟩
/-! the plain calls -/
theorem k_odds (K : Core h c0 N ns sg np P im IM) (S : Scr h ns np) (x y : Int32) : WW h c0 (fun h => f_X5_odds h 1 x y) (fun h => f_X6_odds h 31 x y) := by
  obtain ⟨-, -, -, -, -, ⟨a, b, c, d, e, u, G⟩, -⟩ := id S
  rcases ar_life x with ⟨l1, l2⟩ | ⟨k, hk, rfl, l1, l2⟩
  · exact WW.same K S (v := -1) (by unfold f_X5_odds; rw [l1]; rfl) (by unfold f_X6_odds; rw [l2]; rfl)
  rcases ar_in 0 9 0 9 rfl rfl (by decide) (by decide) y with ⟨n1, n2⟩ | ⟨v, -, hv, rfl, n1, n2⟩
  · exact WW.same K S (v := -2) (by unfold f_X5_odds; rw [l1, n1]; rfl) (by unfold f_X6_odds; rw [l2, n2]; rfl)
  obtain ⟨ci, c1, -⟩ := cls_rd K
  obtain ⟨ri, r0, r1, r2, r3, r4, r5, q6, q7, q8, q9, q10, q11, q12, q13, q14, a6, a7, -⟩ := bk_rd K.bok
  obtain ⟨h1, e1, B1, f1⟩ := bk_w6 K.bok hk v
  have G1 := G.fr f1 (by decide)
  have M1 := K.mbk.fr f1 (by decide)
  obtain ⟨h2, e2, M2, f2⟩ := ga_wr M1 (i := k) (by omega) (by decide) v
  refine ⟨nI (N k), h1, h2, ?_, by rw [f1.2 0 (by decide)]; exact K.c0, go_is G1, ?_, gu N k v, ns, sg, np, P, im, IM, ?_, ?_⟩
  · show f_X5_odds h 1 _ _ = _
    unfold f_X5_odds
    rw [l1, n1, c1]
    simp only [Option.bind_some]
    rw [q6, if_neg i1_ne0, if_neg i1_ne0]
    simp only [Option.bind_some]
    rw [a6 k hk, e1]
    rfl
  · show f_X6_odds h1 31 _ _ = _
    unfold f_X6_odds
    rw [l2, n2, (mf_rd G1).2.1]
    simp only [Option.bind_some]
    rw [if_neg i1_ne0, if_neg i1_ne0, ga_rd M1 (by omega) (by decide), e2]
    rfl
  · have F := (f1.mono (l' := 31 :: 32 :: 34 :: bkl 2) (by decide)).trans (f2.mono (by decide))
    exact K.put F (B1.fr f2 (by decide)) M2 ((K.msg.fr f1 (by decide)).fr f2 (by decide)) (inv_odds K.iv hk (by omega)) K.sgl
  · exact (S.fr f1 (by decide)).fr f2 (by decide)
end STATE
