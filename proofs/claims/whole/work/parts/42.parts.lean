/-! PARTS IN LOWEST TERMS: chance, bets -/
theorem lgc_0 {a : Nat} (h : a < 2 ^ 63) : lg_cmp (lN a) 0 = 0 ↔ a = 0 := by
  constructor
  · intro z
    by_cases c : 0 < a
    · rw [lgc_pos c h] at z; exact absurd z (by decide)
    · omega
  · intro z; subst z; decide +kernel
theorem lN_ne0 {a : Nat} (h0 : 0 < a) (h : a < 2 ^ 63) : ¬ lN a = 0 := by
  show ¬ lN a = lN 0
  rw [pk_lEQ h (by decide)]
  omega
theorem euclid_half {a b : Nat} (hb : 0 < b) (hr : 0 < a % b) : 2 * (b % (a % b)) < b := by
  have h1 := Nat.mod_lt a hb
  have h2 := Nat.mod_lt b hr
  have h3 : b % (a % b) + (a % b) ≤ b := by
    have h4 := Nat.mod_add_div b (a % b)
    have h5 : 1 ≤ b / (a % b) := Nat.div_pos (by omega) hr
    have h6 : (a % b) * 1 ≤ (a % b) * (b / (a % b)) := Nat.mul_le_mul_left _ h5
    omega
  omega
theorem gcd_step (a b : Nat) : Nat.gcd a b = Nat.gcd b (a % b) := by
  rw [Nat.gcd_comm a b, Nat.gcd_rec b a, Nat.gcd_comm]
theorem c_gcd : ∀ (m n i a b : Nat), m ≤ 63 → b < 2 ^ m → a < 2 ^ 63 → 2 * m + 1 + i < 200 → 2 * m + 1 < n → f_X5_commonDivisor_9 n (lN a) (lN b) (nI i) = some (lN (Nat.gcd a b)) := by
  intro m
  induction m with
  | zero =>
    intro n i a b _ hb ha hi hn
    obtain ⟨n, rfl⟩ : ∃ n', n = n' + 1 := ⟨n - 1, by omega⟩
    have : b = 0 := by omega
    subst this
    unfold f_X5_commonDivisor_9
    rw [n_ifge 200 200 rfl (by omega) (by decide), if_neg (by omega), if_pos ((lgc_0 (by decide)).mpr rfl), Nat.gcd_zero_right]
  | succ m ih =>
    intro n i a b hm hb ha hi hn
    obtain ⟨n, rfl⟩ : ∃ n', n = n' + 2 := ⟨n - 2, by omega⟩
    have hp : 2 ^ (m + 1) ≤ 2 ^ 63 := Nat.pow_le_pow_right (by omega) (by omega)
    unfold f_X5_commonDivisor_9
    rw [n_ifge 200 200 rfl (by omega) (by decide), if_neg (by omega)]
    by_cases c : b = 0
    · rw [if_pos ((lgc_0 (by omega)).mpr c), c, Nat.gcd_zero_right]
    rw [if_neg (fun z => c ((lgc_0 (by omega)).mp z)), if_neg (lN_ne0 (by omega) (by omega)), pk_lRem ha (by omega) (by omega), nI_1, gcd_step]
    have hr := Nat.mod_lt a (show 0 < b by omega)
    unfold f_X5_commonDivisor_9
    rw [n_ifge 200 200 rfl (by omega) (by decide), if_neg (by omega)]
    by_cases d : a % b = 0
    · rw [if_pos ((lgc_0 (by omega)).mpr d), d, Nat.gcd_zero_right]
    rw [if_neg (fun z => d ((lgc_0 (by omega)).mp z)), if_neg (lN_ne0 (by omega) (by omega)), pk_lRem (by omega) (by omega) (by omega), nI_1, gcd_step]
    have hh := euclid_half (a := a) (b := b) (by omega) (by omega)
    rw [Nat.pow_succ] at hb
    exact ih n (i + 2) (a % b) (b % (a % b)) (by omega) (by omega) (by omega) (by omega) (by omega)
theorem m_gcd {x y : Int64} {p : Int32} : ∀ (m n a b : Nat), m ≤ 63 → b < 2 ^ m → a < 2 ^ 63 → 2 * m + 1 < n → f_X6_part_17 n x y p (lN a) (lN b) = f_X6_part_42 x y p (lN (Nat.gcd a b)) := by
  intro m
  induction m with
  | zero =>
    intro n a b _ hb ha hn
    obtain ⟨n, rfl⟩ : ∃ n', n = n' + 1 := ⟨n - 1, by omega⟩
    have : b = 0 := by omega
    subst this
    unfold f_X6_part_17
    rw [if_pos ((lgc_0 (by decide)).mpr rfl), Nat.gcd_zero_right]
  | succ m ih =>
    intro n a b hm hb ha hn
    obtain ⟨n, rfl⟩ : ∃ n', n = n' + 2 := ⟨n - 2, by omega⟩
    have hp : 2 ^ (m + 1) ≤ 2 ^ 63 := Nat.pow_le_pow_right (by omega) (by omega)
    unfold f_X6_part_17
    by_cases c : b = 0
    · rw [if_pos ((lgc_0 (by omega)).mpr c), c, Nat.gcd_zero_right]
    rw [if_neg (fun z => c ((lgc_0 (by omega)).mp z)), if_neg (lN_ne0 (by omega) (by omega)), pk_lRem ha (by omega) (by omega), gcd_step]
    have hr := Nat.mod_lt a (show 0 < b by omega)
    unfold f_X6_part_17
    by_cases d : a % b = 0
    · rw [if_pos ((lgc_0 (by omega)).mpr d), d, Nat.gcd_zero_right]
    rw [if_neg (fun z => d ((lgc_0 (by omega)).mp z)), if_neg (lN_ne0 (by omega) (by omega)), pk_lRem (by omega) (by omega) (by omega), gcd_step]
    have hh := euclid_half (a := a) (b := b) (by omega) (by omega)
    rw [Nat.pow_succ] at hb
    exact ih n (a % b) (b % (a % b)) (by omega) (by omega) (by omega) (by omega)
/-- the part of a fraction in lowest terms -/
def lw (a b p : Nat) : Nat := (if p = 0 then a else b) / Nat.gcd a b
theorem c_low {a b p : Nat} (ha : a < 2 ^ 63) (h0 : 0 < b) (hb : b < 2 ^ 63) (hp : p < 2) : f_X5_lowest (lN a) (lN b) (nI p) = some (lN (lw a b p)) := by
  have hg : 0 < Nat.gcd a b := Nat.gcd_pos_of_pos_right a h0
  have hg2 : Nat.gcd a b < 2 ^ 63 := Nat.lt_of_le_of_lt (Nat.gcd_le_right a h0) hb
  unfold f_X5_lowest f_X5_commonDivisor f_X5_lowest_35
  rw [show f_X5_commonDivisor_9 gi_F (lN a) (lN b) 0 = some (lN (Nat.gcd a b)) from c_gcd 63 gi_F 0 a b (by omega) hb ha (by omega) (by decide)]
  simp only [Option.bind_some]
  rw [lgc_pos hg hg2, if_pos (by decide), if_neg (lN_ne0 hg hg2), if_neg (lN_ne0 hg hg2), pk_lDiv ha hg hg2, pk_lDiv hb hg hg2, n_if0 (by omega)]
  unfold lw
  split <;> rfl
theorem m_low {a b p : Nat} (ha : a < 2 ^ 63) (h0 : 0 < b) (hb : b < 2 ^ 63) (hp : p < 2) : f_X6_part (lN a) (lN b) (nI p) = some (lN (lw a b p)) := by
  have hg : 0 < Nat.gcd a b := Nat.gcd_pos_of_pos_right a h0
  have hg2 : Nat.gcd a b < 2 ^ 63 := Nat.lt_of_le_of_lt (Nat.gcd_le_right a h0) hb
  have hz : 0 ≤ lg_cmp (lN a) 0 := by
    by_cases c : a = 0
    · rw [(lgc_0 ha).mpr c]; decide
    · rw [lgc_pos (by omega) ha]; decide
  unfold f_X6_part f_X6_part_12
  rw [if_pos hz, m_gcd 63 gi_F a b (by omega) hb ha (by decide)]
  unfold f_X6_part_42
  rw [if_neg (lN_ne0 hg hg2), if_neg (lN_ne0 hg hg2), pk_lDiv ha hg hg2, pk_lDiv hb hg hg2, n_if0 (by omega)]
  unfold lw
  split <;> rfl
section PARTS
variable {h : gi_H} {c0 : va_E} {N : Nat → Nat} {ns : Nat} {sg : Nat → Nat} {np : Nat} {P : Nat → Nat} {im : Nat → gi_Im} {IM : Nat → Nat}
theorem k_chance (K : Core h c0 N ns sg np P im IM) (S : Scr h ns np) (x y z : Int32) : RR (f_X5_chance h 1 x y z) (f_X6_chance h 31 x y z) := by
  obtain ⟨-, -, -, -, -, ⟨a, b, c, d, e, u, G⟩, -⟩ := id S
  obtain ⟨ci, c1, -⟩ := cls_rd K
  obtain ⟨ri, r0, r1, r2, r3, r4, r5, q6, q7, q8, q9, q10, q11, q12, q13, q14, a6, a7, -⟩ := bk_rd K.bok
  have i5 := K.iv.2.2.2.2.1
  unfold RR f_X5_chance f_X6_chance
  rcases ar_life x with ⟨l1, l2⟩ | ⟨k, hk, rfl, l1, l2⟩
  · rw [l1, l2]; exact ⟨-1000000000000000001, rfl, rfl⟩
  rw [l1, l2]
  simp only [Option.bind_some]
  rw [if_neg i1_ne0, if_neg i1_ne0]
  rcases ar_in 0 9 0 9 rfl rfl (by decide) (by decide) y with ⟨n1, n2⟩ | ⟨t, ht0, ht, rfl, n1, n2⟩
  · rw [n1, n2]; exact ⟨-1000000000000000002, rfl, rfl⟩
  rw [n1, n2]
  simp only [Option.bind_some]
  rw [if_neg i1_ne0, if_neg i1_ne0]
  rcases ar_part z with ⟨n1, n2⟩ | ⟨p, hp, rfl, n1, n2⟩
  · rw [n1, n2]; exact ⟨-1000000000000000002, rfl, rfl⟩
  rw [n1, n2, c1, (mf_rd G).2.1]
  simp only [Option.bind_some]
  have j1 := K.iv.1 k hk
  have h10 := p10_le ht
  have h11 := p10_pos t
  have h12 := en_le (N k) t
  rw [if_neg i1_ne0, if_neg i1_ne0, if_pos ri, d_ended K.bok i5 (by omega), ga_rl K.mbk (I := 12) (i := 12) rfl (by omega) (by decide), q6]
  simp only [Option.bind_some]
  rw [x6_has (by omega) (by omega), a6 k hk, ga_rd K.mbk (i := k) (by omega) (by decide)]
  simp only [Option.bind_some]
  rw [endings_eq (by omega) (by omega), x6_pw, pw10 (by omega), n_10L (by omega), x6_pw, pw_eq _ (by omega)]
  simp only [Option.bind_some]
  rw [lN_sub (pow_le10 (N k) t), show 10 ^ t - (10 - N k) ^ t = en (N k) t from rfl, c_low (by omega) h11 (by omega) hp, m_low (by omega) h11 (by omega) hp]
  simp only [Option.bind_some]
  rw [n_ifb]
  by_cases q : (N 12).testBit k = true
  · rw [if_pos q]; exact ⟨-1000000000000000003, rfl, rfl⟩
  · rw [if_neg q]; exact ⟨_, rfl, rfl⟩
end PARTS
