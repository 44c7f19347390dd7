/-! THE HEAP IN NUMBERS: arrays and objects as they stand -/
/-- an array of n ints that holds the numbers g -/
def ga (h : gi_H) (a n : Nat) (g : Nat → Nat) : Prop := ∃ f, h[a]? = some (.inl (0, n, .inl f)) ∧ ∀ i, i < n → f i = nI (g i)
theorem ga_rd {h : gi_H} {a n : Nat} {g : Nat → Nat} (H : ga h a n g) {i : Nat} (hi : i < n) (hn : n < 2 ^ 31) : gi_ai h a 0 (nI i) = some (nI (g i)) := by
  obtain ⟨f, h1, h2⟩ := H
  unfold gi_ai
  rw [h1]
  simp only
  rw [if_pos ⟨trivial, nI_in hi hn⟩, nI_clamp (by omega), h2 i hi]
theorem ga_an {h : gi_H} {a n : Nat} {g : Nat → Nat} (H : ga h a n g) : gi_an h a 0 = some n := by
  obtain ⟨f, h1, h2⟩ := H
  unfold gi_an
  rw [h1]
  simp
/-- the heaps are alike but for the places of l -/
def gfr (l : List Nat) (h h' : gi_H) : Prop := h'.length = h.length ∧ ∀ j, j ∉ l → h'[j]? = h[j]?
theorem gfr.refl (l : List Nat) (h : gi_H) : gfr l h h := ⟨rfl, fun _ _ => rfl⟩
theorem gfr.trans {l : List Nat} {a b c : gi_H} (h1 : gfr l a b) (h2 : gfr l b c) : gfr l a c := ⟨h2.1.trans h1.1, fun j hj => (h2.2 j hj).trans (h1.2 j hj)⟩
theorem gfr.mono {l l' : List Nat} {a b : gi_H} (h : gfr l a b) (hs : ∀ j ∈ l, j ∈ l') : gfr l' a b := ⟨h.1, fun j hj => h.2 j (fun z => hj (hs j z))⟩
theorem gfr_set {h : gi_H} (a : Nat) (x : va_E) : gfr [a] h (h.set a x) := ⟨List.length_set, fun j hj => by rw [List.getElem?_set_ne]; simp at hj; exact fun e => hj e.symm⟩
theorem ga.keep {h h' : gi_H} {a n : Nat} {g : Nat → Nat} (H : ga h a n g) (e : h'[a]? = h[a]?) : ga h' a n g := by
  obtain ⟨f, h1, h2⟩ := H
  exact ⟨f, e.trans h1, h2⟩
/-- a number is put -/
def gu (g : Nat → Nat) (i v : Nat) : Nat → Nat := fun j => if j = i then v else g j
theorem gu_self (g : Nat → Nat) (i v : Nat) : gu g i v i = v := by simp [gu]
theorem gu_ne (g : Nat → Nat) {i j : Nat} (v : Nat) (h : j ≠ i) : gu g i v j = g j := by simp [gu, h]
theorem ga_wr {h : gi_H} {a n : Nat} {g : Nat → Nat} (H : ga h a n g) {i : Nat} (hi : i < n) (hn : n < 2 ^ 31) (v : Nat) : ∃ h', gi_pi h a 0 (nI i) (nI v) = some h' ∧ ga h' a n (gu g i v) ∧ gfr [a] h h' := by
  obtain ⟨f, h1, h2⟩ := H
  unfold gi_pi
  rw [h1]
  simp only
  rw [if_pos ⟨trivial, nI_in hi hn⟩]
  refine ⟨_, rfl, ⟨upd f (nI i).toNatClampNeg (nI v), ?_, fun j hj => ?_⟩, gfr_set _ _⟩
  · rw [List.getElem?_set_self (List.getElem?_eq_some_iff.mp h1).1]
  · rw [nI_clamp (by omega)]
    unfold upd gu
    split
    · rfl
    · exact h2 j hj
/-- an object's fields -/
def go (h : gi_H) (a c : Nat) (fs : List Value) : Prop := h[a]? = some (.inr (c, fs))
theorem go.keep {h h' : gi_H} {a c : Nat} {fs : List Value} (H : go h a c fs) (e : h'[a]? = h[a]?) : go h' a c fs := e.trans H
theorem go_is {h : gi_H} {a c : Nat} {fs : List Value} (H : go h a c fs) : gi_is h a c = true := by
  unfold gi_is
  rw [H]
  exact Nat.beq_refl c
theorem go_fI {h : gi_H} {a c : Nat} {fs : List Value} (H : go h a c fs) {k : Nat} {x : Int32} (hk : fs[k]? = some (.int x)) : gi_fI h a c k = some x := by
  unfold gi_fI gi_fg
  rw [H]
  simp only [if_true, hk]
theorem go_fJ {h : gi_H} {a c : Nat} {fs : List Value} (H : go h a c fs) {k : Nat} {x : Int64} (hk : fs[k]? = some (.long x)) : gi_fJ h a c k = some x := by
  unfold gi_fJ gi_fg
  rw [H]
  simp only [if_true, hk]
theorem go_fR {h : gi_H} {a c : Nat} {fs : List Value} (H : go h a c fs) {k : Nat} {x : Nat} (hk : fs[k]? = some (.ref x)) : gi_fR h a c k = some x := by
  unfold gi_fR gi_fg
  rw [H]
  simp only [if_true, hk]
theorem go_fp {h : gi_H} {a c : Nat} {fs : List Value} (H : go h a c fs) {k : Nat} (v : Value) (hk : k < fs.length) : ∃ h', gi_fp h a c k v = some h' ∧ go h' a c (fs.set k v) ∧ gfr [a] h h' := by
  unfold gi_fp
  rw [H]
  simp only
  rw [if_pos ⟨trivial, hk⟩]
  exact ⟨_, rfl, by unfold go; rw [List.getElem?_set_self (List.getElem?_eq_some_iff.mp H).1], gfr_set _ _⟩
