/-! WORLDS: the class's masks, the reference's tests -/
def mk (f : Nat → Bool) : Nat → Nat
  | 0 => 0
  | n + 1 => if f n then mk f n ||| 2 ^ n else mk f n
theorem mk_bit (f : Nat → Bool) : ∀ n q, (mk f n).testBit q = (decide (q < n) && f q) := by
  intro n
  induction n with
  | zero => intro q; simp [mk]
  | succ n ih =>
    intro q
    unfold mk
    by_cases c : f n = true
    · rw [if_pos c, Nat.testBit_or, ih, Nat.testBit_two_pow]
      by_cases e : n = q
      · subst e; simp [c]
      · rw [decide_eq_false e, Bool.or_false]
        congr 1
        exact decide_eq_decide.mpr (by omega)
    · rw [if_neg c, ih]
      by_cases e : q = n
      · subst e
        rw [show f q = false by simpa using c]
        simp
      · congr 1
        exact decide_eq_decide.mpr (by omega)
theorem mk_lt (f : Nat → Bool) : ∀ n, mk f n < 2 ^ n := by
  intro n
  induction n with
  | zero => exact Nat.one_pos
  | succ n ih =>
    have h1 : 2 ^ n < 2 ^ (n + 1) := Nat.pow_lt_pow_right (by omega) (by omega)
    unfold mk
    split
    · exact or_lt (by omega) h1
    · omega
theorem mk_63 (f : Nat → Bool) {n : Nat} (hn : n ≤ 49) : mk f n < 2 ^ 63 := Nat.lt_of_lt_of_le (mk_lt f n) (Nat.pow_le_pow_right (by omega) (by omega))
theorem mk_and (f g : Nat → Bool) : mk f 49 &&& mk (fun W => f W && g W) 49 = mk (fun W => f W && g W) 49 := by
  apply Nat.eq_of_testBit_eq
  intro q
  rw [Nat.testBit_and, mk_bit, mk_bit]
  cases decide (q < 49) <;> cases f q <;> simp
theorem w_p {W : Nat} (h0 : 0 < W) (h1 : W < 100) : f_X4_policyOf (nI W) = some (nI ((W - 1) / 4)) := by
  unfold f_X4_policyOf
  rw [show nI W - 1 = nI (W - 1) from pk_sub (b := 1) (by omega), show nI (W - 1) / 4 = nI ((W - 1) / 4) from pk_div (a := W - 1) (d := 4) (by omega) (by decide) (by decide)]
theorem w_h {W : Nat} (h0 : 0 < W) (h1 : W < 100) : f_X4_holderIn (nI W) = some (nI ((W - 1) % 4)) := by
  unfold f_X4_holderIn
  rw [show nI W - 1 = nI (W - 1) from pk_sub (b := 1) (by omega), show nI (W - 1) - nI (W - 1) / 4 * 4 = nI ((W - 1) % 4) from pk_rem (a := W - 1) (d := 4) (by omega) (by decide) (by decide)]
section WORLDS
variable {h : gi_H} {N : Nat → Nat} {ns : Nat} {sg : Nat → Nat} {np : Nat}
theorem c_every {q : Nat} (H : bk h q N ns sg) (I : inv N) : f_X4_everyWorld h q = some (lN (mk (wd N) 49)) := by
  obtain ⟨i1, i2, i3, i4, i5, i6, i7, i8, i9⟩ := I
  obtain ⟨ri, r0, r1, r2, r3, r4, r5, q6, q7, q8, q9, q10, q11, q12, q13, q14, a6, a7, a8, a9, a10, a11, -⟩ := bk_rd H
  have st : ∀ n W, 1 ≤ W → W ≤ 49 → 49 - W < n → f_X4_everyWorld_4 h n q (lN (mk (wd N) W)) (nI W) = some (lN (mk (wd N) 49)) := by
    intro n
    induction n with
    | zero => intro W _ _ hn; omega
    | succ n ih =>
      intro W hW1 hW hn
      unfold f_X4_everyWorld_4
      rw [n_ifge 49 49 rfl (by omega) (by decide)]
      rcases Nat.lt_or_ge W 49 with hlt | hge
      · have ih1 := ih (W + 1) (by omega) (by omega) (by omega)
        have hs : mk (wd N) (W + 1) = if wd N W then mk (wd N) W ||| 2 ^ W else mk (wd N) W := rfl
        have hp : (W - 1) / 4 < 12 := by omega
        obtain ⟨j1, j2, -⟩ := i8 _ hp
        have hwd : wd N W = ((N 14).testBit ((W - 1) / 4) && decide (N (15 + 4 * ((W - 1) / 4)) ≠ (W - 1) % 4)) := by
          unfold wd
          rw [decide_eq_false (show ¬ W = 0 by omega), Bool.false_or]
        rw [if_neg (by omega), w_p (by omega) (by omega), w_h (by omega) (by omega), q8]
        simp only [Option.bind_some]
        rw [if_pos ri, d_stands H i7 hp, a8 _ hp]
        simp only [Option.bind_some]
        rw [n_ifb, n_ifc (nI ((W - 1) % 4)) _ rfl (by omega) (by omega), l_set hlt, nI_1]
        rw [hwd] at hs
        by_cases c1 : (N 14).testBit ((W - 1) / 4) = true
        · by_cases c2 : N (15 + 4 * ((W - 1) / 4)) = (W - 1) % 4
          · rw [if_neg (by simp [c2])] at hs
            rw [if_pos c1, if_pos c2, ← hs]; exact ih1
          · rw [if_pos (by simp [c1, c2])] at hs
            rw [if_pos c1, if_neg c2, ← hs]; exact ih1
        · rw [if_neg (by simp [c1])] at hs
          rw [if_neg c1, ← hs]; exact ih1
      · rw [if_pos (by omega), show W = 49 by omega]
  have h1 : mk (wd N) 1 = 1 := by simp [mk, wd]
  have h2 := st gi_F 1 (by omega) (by omega) (by decide)
  rw [h1] at h2
  exact h2
theorem c_mor {q : Nat} (H : bk h q N ns sg) (I : inv N) {b k W : Nat} (hb : b < 2 ^ 31) (hk : k < 2 ^ 31) (hW : W < 49) (hw : wd N W = true) : ∃ m, f_X4_moreIn h q (nI W) (nI b) (nI k) = some m ∧ nI (gnW N b k 99 0 12) + m = nI (gw N W b k) := by
  obtain ⟨i1, i2, i3, i4, i5, i6, i7, i8, i9⟩ := I
  obtain ⟨ri, r0, r1, r2, r3, r4, r5, q6, q7, q8, q9, q10, q11, q12, q13, q14, a6, a7, a8, a9, a10, a11, -⟩ := bk_rd H
  unfold f_X4_moreIn
  by_cases h0 : W = 0
  · subst h0
    refine ⟨0, ?_, Int32.add_zero _⟩
    unfold f_X4_policyOf
    rw [Option.bind_some, if_pos (show nI 0 = 0 from rfl)]
  have hp : (W - 1) / 4 < 12 := by omega
  obtain ⟨j1, j2, -⟩ := i8 _ hp
  unfold wd at hw
  rw [decide_eq_false h0, Bool.false_or, Bool.and_eq_true, decide_eq_true_eq] at hw
  obtain ⟨w1, w2⟩ := hw
  have hg : gw N W b k = gnW N b k ((W - 1) / 4) ((W - 1) % 4) 12 := by unfold gw; rw [if_neg h0]
  have hq := (gnW_eq N b k ((W - 1) / 4) ((W - 1) % 4) 12 (by omega)).resolve_right (by omega)
  rw [← hg] at hq
  rw [w_p (by omega) (by omega), w_h (by omega) (by omega)]
  simp only [Option.bind_some]
  rw [if_neg (fun z => h0 ((n_eq0 (by omega)).mp z)), if_pos ri, d_stands H i7 hp, q8, q9, q10]
  simp only [Option.bind_some]
  rw [a8 _ hp, a9 _ hp, a10 _ hp]
  simp only [Option.bind_some]
  rw [n_ifb, if_pos w1, n_ifc (nI k) k rfl (by omega) hk, n_ifc (nI b) b rfl (by omega) hb, n_ifc (nI b) b rfl (by omega) hb]
  by_cases c1 : N (16 + 4 * ((W - 1) / 4)) = k
  · rw [if_pos c1]
    by_cases c2 : (W - 1) % 4 = b
    · rw [if_neg (fun z => w2 (by rw [z.2.2.2, c2])), if_pos ⟨hp, w1, c1, c2⟩] at hq
      rw [if_pos c2]
      refine ⟨_, rfl, ?_⟩
      rw [nI_add]
      congr 1
      omega
    · rw [if_neg (c := (W - 1) / 4 < 12 ∧ (N 14).testBit ((W - 1) / 4) = true ∧ N (16 + 4 * ((W - 1) / 4)) = k ∧ (W - 1) % 4 = b) (fun z => c2 z.2.2.2)] at hq
      rw [if_neg c2]
      by_cases c3 : N (15 + 4 * ((W - 1) / 4)) = b
      · rw [if_pos ⟨hp, w1, c1, c3⟩] at hq
        rw [if_pos c3]
        refine ⟨_, rfl, ?_⟩
        rw [← Int32.sub_eq_add_neg, pk_sub (by omega)]
        congr 1
        omega
      · rw [if_neg (fun z => c3 z.2.2.2)] at hq
        rw [if_neg c3]
        refine ⟨0, rfl, ?_⟩
        rw [Int32.add_zero]
        congr 1
        omega
  · rw [if_neg (fun z => c1 z.2.2.1), if_neg (fun z => c1 z.2.2.1)] at hq
    rw [if_neg c1]
    refine ⟨0, rfl, ?_⟩
    rw [Int32.add_zero]
    congr 1
    omega
theorem gnW_le {N : Nat → Nat} (I : inv N) (b k o w : Nat) : ∀ n, n ≤ 12 → gnW N b k o w n ≤ 90 * n := by
  intro n
  induction n with
  | zero => intro _; exact Nat.le_refl _
  | succ n ih =>
    intro hn
    have := ih (by omega)
    obtain ⟨c, h1, h2⟩ := (I.2.2.2.2.2.2.2.1 n (by omega)).2.2.1
    have hx : ∀ (p : Prop) [Decidable p], (if p then N (17 + 4 * n) else 0) ≤ 90 := by
      intro p _
      split <;> omega
    refine Nat.le_trans (Nat.add_le_add_left (hx _) _) (by omega)
theorem gw_le {N : Nat → Nat} (I : inv N) (W b k : Nat) : gw N W b k ≤ 1080 := by
  unfold gw
  split
  · exact gnW_le I b k 99 0 12 (Nat.le_refl _)
  · exact gnW_le I b k _ _ 12 (Nat.le_refl _)
theorem c_say {q : Nat} (H : bk h q N ns sg) (I : inv N) (O : sgok ns sg) {f : Nat → Bool} (hf : ∀ W, f W = true → wd N W = true) {i : Nat} (hi : i < 8) : f_X4_worldsThatSay h q (lN (mk f 49)) (nI i) = some (lN (mk (fun W => f W && decide (gw N W (sg (3 * i)) (sg (3 * i + 1)) = sg (3 * i + 2))) 49)) := by
  obtain ⟨ri, r0, r1, r2, r3, r4, r5, q6, q7, q8, q9, q10, q11, q12, q13, q14, a6, a7, a8, a9, a10, a11, a12, a13, a14⟩ := bk_rd H
  obtain ⟨o1, o2, o3⟩ := O.2 i hi
  unfold f_X4_worldsThatSay
  rw [q12, Option.bind_some, a12 i hi, Option.bind_some, q13, Option.bind_some, a13 i hi, Option.bind_some, if_pos ri, d_gains H I (by omega) (by omega), Option.bind_some]
  have hm := mk_63 f (Nat.le_refl 49)
  have st : ∀ n W, W ≤ 49 → 49 - W < n → f_X4_worldsThatSay_32 h n q (lN (mk f 49)) (nI i) (nI (sg (3 * i))) (nI (sg (3 * i + 1))) (nI (gnW N (sg (3 * i)) (sg (3 * i + 1)) 99 0 12)) (lN (mk (fun W => f W && decide (gw N W (sg (3 * i)) (sg (3 * i + 1)) = sg (3 * i + 2))) W)) (nI W) = some (lN (mk (fun W => f W && decide (gw N W (sg (3 * i)) (sg (3 * i + 1)) = sg (3 * i + 2))) 49)) := by
    intro n
    induction n with
    | zero => intro W _ hn; omega
    | succ n ih =>
      intro W hW hn
      unfold f_X4_worldsThatSay_32
      rw [n_ifge 49 49 rfl (by omega) (by decide)]
      rcases Nat.lt_or_ge W 49 with hlt | hge
      · have ih1 := ih (W + 1) (by omega) (by omega)
        have hs : mk (fun W => f W && decide (gw N W (sg (3 * i)) (sg (3 * i + 1)) = sg (3 * i + 2))) (W + 1) = if (f W && decide (gw N W (sg (3 * i)) (sg (3 * i + 1)) = sg (3 * i + 2))) then mk (fun W => f W && decide (gw N W (sg (3 * i)) (sg (3 * i + 1)) = sg (3 * i + 2))) W ||| 2 ^ W else mk (fun W => f W && decide (gw N W (sg (3 * i)) (sg (3 * i + 1)) = sg (3 * i + 2))) W := rfl
        rw [if_neg (by omega), l_ifb hm hlt, mk_bit, decide_eq_true hlt, Bool.true_and, nI_1]
        by_cases c1 : f W = true
        · obtain ⟨m, e1, e2⟩ := c_mor H I (b := sg (3 * i)) (k := sg (3 * i + 1)) (by omega) (by omega) hlt (hf W c1)
          have hl := gw_le I W (sg (3 * i)) (sg (3 * i + 1))
          rw [if_pos c1, e1, q14]
          simp only [Option.bind_some]
          rw [a14 i hi]
          simp only [Option.bind_some]
          rw [e2, n_ifc (nI (sg (3 * i + 2))) _ rfl (by omega) (by omega), l_set hlt]
          by_cases c2 : gw N W (sg (3 * i)) (sg (3 * i + 1)) = sg (3 * i + 2)
          · rw [if_pos (by simp [c1, c2])] at hs
            rw [if_pos c2, ← hs]; exact ih1
          · rw [if_neg (by simp [c2])] at hs
            rw [if_neg c2, ← hs]; exact ih1
        · rw [if_neg (by simp [c1])] at hs
          rw [if_neg c1, ← hs]; exact ih1
      · rw [if_pos (by omega), show W = 49 by omega]
  exact st gi_F 0 (by omega) (by decide)
theorem fit_wd {W : Nat} : ∀ n, fitW N sg W n = true → wd N W = true := by
  intro n
  induction n with
  | zero => intro z; exact z
  | succ n ih =>
    intro z
    unfold fitW at z
    rw [Bool.and_eq_true] at z
    exact ih z.1
theorem c_fit {q : Nat} (H : bk h q N ns sg) (I : inv N) (O : sgok ns sg) (x : Nat) : f_X4_fitting h x q = some (lN (mk (fun W => fitW N sg W ns) 49)) := by
  obtain ⟨ri, r0, r1, r2, r3, r4, r5, -⟩ := bk_rd H
  have hns := O.1
  unfold f_X4_fitting
  rw [c_every H I, Option.bind_some]
  have st : ∀ n i, i ≤ ns → ns - i < n → f_X4_fitting_8 h n q (lN (mk (fun W => fitW N sg W i) 49)) (nI i) = some (lN (mk (fun W => fitW N sg W ns) 49)) := by
    intro n
    induction n with
    | zero => intro i _ hn; omega
    | succ n ih =>
      intro i hi hn
      unfold f_X4_fitting_8
      rw [r5, Option.bind_some, n_ifle (nI i) i rfl (by omega) (by omega), n_ifge 8 8 rfl (by omega) (by decide)]
      rcases Nat.lt_or_ge i ns with hlt | hge
      · rw [if_neg (by omega), if_neg (by omega), c_say H I O (fun W z => fit_wd i z) (by omega), Option.bind_some, l_and, nI_1, mk_and (fun W => fitW N sg W i)]
        exact ih (i + 1) (by omega) (by omega)
      · rw [if_pos (by omega), show i = ns by omega]
  exact st gi_F 0 (by omega) (by unfold gi_F; omega)
end WORLDS
