/-! VOIDS, 2: the class's sets -/
theorem pc12 : ∀ a, a < 64 → ∀ b, b < 64 → f_J6_bitCount_0f7a4 (nI (64 * a + b)) = some (nI (pc (64 * a + b))) := by decide +kernel
theorem pcA {a : Nat} (ha : a < 4096) : f_J6_bitCount_0f7a4 (nI a) = some (nI (pc a)) := by
  have h := pc12 (a / 64) (by omega) (a % 64) (by omega)
  rw [show 64 * (a / 64) + a % 64 = a by omega] at h
  exact h
theorem pc_le (a : Nat) : pc a ≤ 12 := by
  have h := bN_le a
  have h0 := h 0
  have h1 := h 1
  have h2 := h 2
  have h3 := h 3
  have h4 := h 4
  have h5 := h 5
  have h6 := h 6
  have h7 := h 7
  have h8 := h 8
  have h9 := h 9
  have h10 := h 10
  have h11 := h 11
  unfold pc
  omega
theorem dif_bit (a b p : Nat) : (dif a b).testBit p = (a.testBit p && !b.testBit p) := by
  unfold dif
  rw [Nat.testBit_xor, Nat.testBit_and]
  cases a.testBit p <;> cases b.testBit p <;> simp
theorem n_dif (a b : Nat) : nI a &&& (nI b ^^^ (-1)) = nI (dif a b) := by
  apply Int32.toBitVec_inj.1
  rw [Int32.toBitVec_and, Int32.toBitVec_xor, show (-1 : Int32).toBitVec = BitVec.allOnes 32 from by decide +kernel]
  show BitVec.ofNat 32 a &&& (BitVec.ofNat 32 b ^^^ BitVec.allOnes 32) = BitVec.ofNat 32 (dif a b)
  apply BitVec.eq_of_getLsbD_eq
  intro i hi
  simp only [BitVec.getLsbD_and, BitVec.getLsbD_xor, BitVec.getLsbD_ofNat, BitVec.getLsbD_allOnes, hi, decide_true, Bool.true_and, dif_bit]
  cases a.testBit i <;> cases b.testBit i <;> simp
theorem n_nx {s G : Nat} (h : s < G) (hG : G < 4096) : (nI s - nI G) &&& nI G = nI (dif G (G - s - 1)) := by
  have e : nI s - nI G = nI (G - s - 1) ^^^ (-1) := by
    apply Int32.toBitVec_inj.1
    rw [Int32.toBitVec_sub, Int32.toBitVec_xor, show (-1 : Int32).toBitVec = BitVec.allOnes 32 from by decide +kernel, BitVec.xor_allOnes]
    show BitVec.ofNat 32 s - BitVec.ofNat 32 G = ~~~ BitVec.ofNat 32 (G - s - 1)
    apply BitVec.eq_of_toNat_eq
    rw [BitVec.toNat_sub, BitVec.toNat_not, BitVec.toNat_ofNat, BitVec.toNat_ofNat, BitVec.toNat_ofNat, Nat.mod_eq_of_lt (a := s) (by omega), Nat.mod_eq_of_lt (a := G) (by omega), Nat.mod_eq_of_lt (a := G - s - 1) (by omega)]
    omega
  rw [e, Int32.and_comm, n_dif]
theorem nx_ok {s G : Nat} (h : sb s G) (hl : s < G) (hG : G < 4096) : sb (dif G (G - s - 1)) G ∧ s < dif G (G - s - 1) ∧ ∀ t, sb t G → t < dif G (G - s - 1) → t ≤ s := by
  have h1 := dif_add hG h
  have h2 : dif G (G - s - 1) = dif G ((G - s - 1) &&& G) := mb_ext (fun p => by
    rw [mb_dif, mb_dif, mb_and]
    constructor
    · intro ⟨a, b⟩; exact ⟨a, fun z => b z.1⟩
    · intro ⟨a, b⟩; exact ⟨a, fun z => b ⟨z, a⟩⟩)
  have h3 : sb ((G - s - 1) &&& G) G := fun p z => ((mb_and _ _ _).mp z).2
  have h4 := dif_add hG h3
  rw [← h2] at h4
  have h5 : (G - s - 1) &&& G ≤ G - s - 1 := Nat.and_le_left
  refine ⟨dif_sb _ _, by omega, ?_⟩
  intro t ht hlt
  apply Classical.byContradiction
  intro z
  have h6 := dif_add hG ht
  have h7 := low 12 (dif G s) (dif G t) G (by omega) (dif_sb _ _) (dif_sb _ _) (by omega)
  rw [show dif G s - 1 = G - s - 1 by omega] at h7
  omega
theorem sm_le {N : Nat → Nat} (I : inv N) (m : Nat) : ∀ n, n ≤ 12 → sm N m n ≤ 90 * n := by
  intro n
  induction n with
  | zero => intro _; exact Nat.le_refl _
  | succ n ih =>
    intro hn
    have := ih (by omega)
    obtain ⟨c, h1, h2⟩ := (I.2.2.2.2.2.2.2.1 n (by omega)).2.2.1
    show sm N m n + _ ≤ _
    split <;> omega
theorem sm_0 (N : Nat → Nat) : ∀ n, sm N 0 n = 0 := by
  intro n
  induction n with
  | zero => rfl
  | succ n ih =>
    show sm N 0 n + _ = 0
    rw [ih, if_neg (by simp)]
section VOIDS
variable {h : gi_H} {N : Nat → Nat} {ns : Nat} {sg : Nat → Nat}
theorem c_56 {G s : Nat} (hG : G < 4096) (hs : sb s G) (K : Nat → Int32 → Int32 → Int32 → Int32 → Int32 → Int32 → Option Int32) (x2 x3 x4 : Int32) (i : Nat) : f_X0_fewestVoid_56 h K 2 (nI G) x2 x3 x4 (nI s) (nI i) = if s = G then some x3 else K 2 (nI G) x2 x3 x4 (nI (dif G (G - s - 1))) (nI (i + 1)) := by
  unfold f_X0_fewestVoid_56
  rw [nI_1]
  by_cases c : s = G
  · rw [if_pos c, if_pos]
    rw [c, Int32.sub_self]
    exact Int32.zero_and
  · have hl := dif_add hG hs
    have hlt : s < G := by omega
    obtain ⟨n1, n2, n3⟩ := nx_ok hs hlt hG
    have := sb_lt hG n1
    rw [if_neg c, n_nx hlt hG, n_if0 (by omega), if_neg (by omega)]
theorem c_few14 (H : bk h 2 N ns sg) (I : inv N) {G g : Nat} (hG : G < 4096) (hg : g ≤ 999) : ∀ n s i f, sb s G → i ≤ s → 4096 - i < n → sb f G → sm N (dif G f) 12 ≤ g → (f = G ∨ f < s) → (∀ t, sb t G → t < s → sm N (dif G t) 12 ≤ g → wt f ≤ wt t) → ∃ m, f_X0_fewestVoid_14 h n 2 (nI G) (nI g) (nI f) (nI (pc f)) (nI s) (nI i) = some (nI m) ∧ sb m G ∧ sm N (dif G m) 12 ≤ g ∧ ∀ t, sb t G → sm N (dif G t) 12 ≤ g → wt m ≤ wt t := by
  intro n
  induction n with
  | zero => intro s i f _ _ hn; omega
  | succ n ih =>
    intro s i f hs hi hn hf hgf hfs hb
    have ls := sb_lt hG hs
    have lf := sb_lt hG hf
    have p1 := pc_le s
    have p2 := pc_le f
    have hsum := sm_le I (dif G s) 12 (Nat.le_refl _)
    have ld := sb_lt hG (dif_sb G s)
    have tail : ∀ f', sb f' G → sm N (dif G f') 12 ≤ g → (f' = G ∨ f' ≤ s) → (∀ t, sb t G → t ≤ s → sm N (dif G t) 12 ≤ g → wt f' ≤ wt t) → ∃ m, f_X0_fewestVoid_56 h (f_X0_fewestVoid_14 h n) 2 (nI G) (nI g) (nI f') (nI (pc f')) (nI s) (nI i) = some (nI m) ∧ sb m G ∧ sm N (dif G m) 12 ≤ g ∧ ∀ t, sb t G → sm N (dif G t) 12 ≤ g → wt m ≤ wt t := by
      intro f' a1 a2 a3 a4
      rw [c_56 hG hs]
      by_cases c : s = G
      · rw [if_pos c]
        exact ⟨f', rfl, a1, a2, fun t ht hq => a4 t ht (by rw [c]; have := dif_add hG ht; omega) hq⟩
      · have hl := dif_add hG hs
        obtain ⟨n1, n2, n3⟩ := nx_ok hs (by omega) hG
        rw [if_neg c]
        exact ih _ (i + 1) f' n1 (by omega) (by omega) a1 a2 (a3.elim Or.inl (fun z => Or.inr (by omega))) (fun t ht hlt hq => a4 t ht (n3 t ht hlt) hq)
    rw [f_X0_fewestVoid_14, n_ifge 4096 4096 rfl (by omega) (by decide), if_neg (by omega), pcA ls, Option.bind_some, n_ifle (nI (pc s)) (pc s) rfl (by omega) (by omega), if_pos (bk_rd H).1, n_dif, d_sum H (by omega), Option.bind_some, n_iflt (nI (sm N (dif G s) 12)) _ rfl (by omega) (by omega), Option.bind_some]
    by_cases c1 : pc f ≤ pc s
    · rw [if_pos c1]
      refine tail f hf hgf (hfs.elim Or.inl (fun z => Or.inr (by omega))) (fun t ht hlt hq => ?_)
      by_cases c2 : t = s
      · rw [c2]
        rcases hfs with z | z
        · have d1 := dif_pc hs
          have d2 : dif G s = 0 := pc_0 ld (by rw [z] at c1; omega)
          have d3 := dif_add hG hs
          rw [show f = s by omega]
          exact Nat.le_refl _
        · unfold wt
          omega
      · exact hb t ht (by omega) hq
    · rw [if_neg c1]
      by_cases c3 : g < sm N (dif G s) 12
      · rw [if_pos c3]
        refine tail f hf hgf (hfs.elim Or.inl (fun z => Or.inr (by omega))) (fun t ht hlt hq => ?_)
        by_cases c2 : t = s
        · rw [c2] at hq; omega
        · exact hb t ht (by omega) hq
      · rw [if_neg c3]
        refine tail s hs (by omega) (Or.inr (Nat.le_refl _)) (fun t ht hlt hq => ?_)
        by_cases c2 : t = s
        · rw [c2]; exact Nat.le_refl _
        · have := hb t ht (by omega) hq
          unfold wt at this ⊢
          omega
theorem c_few (H : bk h 2 N ns sg) (I : inv N) {g : Nat} (hg : g ≤ 999) (j : Nat) : ∃ m, f_X0_fewestVoid h 2 (nI (gr N j)) (nI g) = some (nI m) ∧ bst (qG N g j) m := by
  have hG := gr_lt N j
  have hself : sb (gr N j) (gr N j) := fun p z => z
  have hz : dif (gr N j) (gr N j) = 0 := by
    have := dif_add hG hself
    omega
  obtain ⟨m, e, m1, m2, m3⟩ := c_few14 H I hG hg gi_F 0 0 (gr N j) (fun p z => absurd z (mb_0 p)) (Nat.le_refl _) (by decide) hself (by rw [hz, sm_0]; omega) (Or.inl rfl) (fun t _ z => by omega)
  refine ⟨m, ?_, ⟨m1, m2⟩, fun s hs => m3 s hs.1 hs.2⟩
  unfold f_X0_fewestVoid
  rw [pcA hG, Option.bind_some]
  exact e
theorem c_v37 (H : bk h 2 N ns sg) (C : go h 1 5 cls5) (I : inv N) {g : Nat} (hg : g ≤ 999) (x2 : Int32) {b : Nat} (hb : b < 4) : ∀ n k U, k ≤ 6 → 6 - k < n → bst (qT N g (6 * b + k)) U → ∃ U', bst (qT N g (6 * b + 6)) U' ∧ ∀ K, f_X5_voids_37 h K n 1 (nI g) x2 (nI U) (nI b) (nI k) = K 1 (nI g) x2 (nI U') (nI (b + 1)) := by
  intro n
  induction n with
  | zero => intro k U _ hn; omega
  | succ n ih =>
    intro k U hk hn hU
    by_cases c : k = 6
    · refine ⟨U, by rw [c] at hU; exact hU, fun K => ?_⟩
      rw [f_X5_voids_37, n_ifge 6 6 rfl (by omega) (by decide), if_pos (by omega), nI_1]
    · obtain ⟨m, e, hm⟩ := c_few H I hg (6 * b + k)
      obtain ⟨U', u1, u2⟩ := ih (k + 1) (U ||| m) (by omega) (by omega) (v_step I hU hm)
      refine ⟨U', u1, fun K => ?_⟩
      have eg : gr N (6 * b + k) = grp N b k 12 := by
        unfold gr
        rw [show (6 * b + k) / 6 = b by omega, show (6 * b + k) % 6 = k by omega]
      rw [eg] at e
      rw [f_X5_voids_37, n_ifge 6 6 rfl (by omega) (by decide), if_neg (by omega), go_fR C rfl, Option.bind_some, Option.bind_some, if_pos (bk_rd H).1, d_grp H I (by omega) (by omega), Option.bind_some, if_pos (bk_rd H).1, e, Option.bind_some, n_or, nI_1]
      exact u2 K
theorem c_v28 (H : bk h 2 N ns sg) (C : go h 1 5 cls5) (I : inv N) {g : Nat} (hg : g ≤ 999) (x2 : Int32) : ∀ n b U, b ≤ 4 → 4 - b < n → bst (qT N g (6 * b)) U → ∃ U', bst (qT N g 24) U' ∧ f_X5_voids_28 h n 1 (nI g) x2 (nI U) (nI b) = f_X5_voids_78 h x2 (nI U') := by
  intro n
  induction n with
  | zero => intro b U _ hn; omega
  | succ n ih =>
    intro b U hb hn hU
    by_cases c : b = 4
    · refine ⟨U, by rw [c] at hU; exact hU, ?_⟩
      rw [f_X5_voids_28, n_ifge 4 4 rfl (by omega) (by decide), if_pos (by omega)]
    · obtain ⟨U1, u1, u2⟩ := c_v37 H C I hg x2 (show b < 4 by omega) gi_F 0 U (by omega) (by decide) hU
      obtain ⟨U', v1, v2⟩ := ih (b + 1) U1 (by omega) (by omega) u1
      refine ⟨U', v1, ?_⟩
      rw [f_X5_voids_28, n_ifge 4 4 rfl (by omega) (by decide), if_neg (by omega)]
      exact (u2 _).trans v2
end VOIDS
