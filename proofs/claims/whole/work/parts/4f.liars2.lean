/-! LIARS, both sides -/
def mv (f : Nat → Bool) : Nat → Nat
  | 0 => 0
  | n + 1 => if f (n + 1) then mv f n ||| 2 ^ (n / 4) else mv f n
theorem cnt_sh (f : Nat → Bool) : ∀ n, cntW f (n + 1) = fI (f 0) + cntW (fun r => f (r + 1)) n := by
  intro n
  induction n with
  | zero => show cntW f 0 + fI (f 0) = fI (f 0) + 0; show 0 + fI (f 0) = _; omega
  | succ n ih =>
    show cntW f (n + 1) + fI (f (n + 1)) = fI (f 0) + (cntW (fun r => f (r + 1)) n + fI (f (n + 1)))
    rw [ih]
    omega
theorem c_moved (f : Nat → Bool) (x : Nat) : f_X4_movedIn x (lN (mk f 49)) = some (nI (mv f 48)) := by
  have hm := mk_63 f (Nat.le_refl 49)
  have st : ∀ n W, W ≤ 48 → 48 - W < n → f_X4_movedIn_5 n (lN (mk f 49)) (nI (mv f W)) (nI (W + 1)) = some (nI (mv f 48)) := by
    intro n
    induction n with
    | zero => intro W _ hn; omega
    | succ n ih =>
      intro W hW hn
      unfold f_X4_movedIn_5
      rw [n_ifge 49 49 rfl (by omega) (by decide)]
      by_cases c1 : W = 48
      · rw [if_pos (by omega), c1]
      · have hs : mv f (W + 1) = if f (W + 1) then mv f W ||| 2 ^ (W / 4) else mv f W := rfl
        have ih1 := ih (W + 1) (by omega) (by omega)
        rw [if_neg (by omega), l_ifb hm (by omega), mk_bit, decide_eq_true (show W + 1 < 49 by omega), Bool.true_and, w_p (by omega) (by omega), Option.bind_some, Nat.add_sub_cancel, n_set (by omega), nI_1]
        by_cases c2 : f (W + 1) = true
        · rw [if_pos c2] at hs ⊢
          rw [← hs]; exact ih1
        · rw [if_neg c2] at hs ⊢
          rw [← hs]; exact ih1
  exact st gi_F 0 (by omega) (by decide)
section LIARS
variable {h : gi_H} {c0 : va_E} {N : Nat → Nat} {ns : Nat} {sg : Nat → Nat} {np : Nat} {P : Nat → Nat} {im : Nat → gi_Im} {IM : Nat → Nat}
variable {a : Int32} {b : Bool} {c d e : Int32} {u : Int64}
theorem m_liars (G : go h 31 6 (mf ns np a b c d e u)) (B : ga h 32 63 N) (Q : ga h 34 24 sg) (I : inv N) (O : sgok ns sg) (x : Int32) : ∀ n R, R ≤ 48 → 48 - R + 1 < n → f_X6_liars_19 h n 31 x (nI (cntW (fun r => fitW N sg (r + 1) ns) R)) (nI (mv (fun W => fitW N sg W ns) R)) (nI R) = f_X6_liars_64 h 31 x (nI (cntW (fun W => fitW N sg W ns) 49)) (nI (mv (fun W => fitW N sg W ns) 48)) := by
  intro n
  induction n with
  | zero => intro R _ hn; omega
  | succ n ih =>
    intro R hR hn
    unfold f_X6_liars_19 f_X6_liars_56
    rw [n_ifge 49 49 rfl (by omega) (by decide), if_neg (by omega), if_pos (go_is G), m_isW G B Q I O (by omega), Option.bind_some, n_ifge 48 48 rfl (by omega) (by decide), show nI R / 4 = nI (R / 4) from pk_div (a := R) (d := 4) (by omega) (by decide) (by decide), nI_1, nI_1, n_set (by omega)]
    by_cases c1 : R = 48
    · subst c1
      obtain ⟨n, rfl⟩ : ∃ n', n = n' + 1 := ⟨n - 1, by omega⟩
      have e49 : ∀ y z, f_X6_liars_19 h (n + 1) 31 x y z (nI (48 + 1)) = f_X6_liars_64 h 31 x y z := by
        intro y z
        unfold f_X6_liars_19
        rw [n_ifge 49 49 rfl (by omega) (by decide), if_pos (by omega)]
      rw [e49, e49, if_pos (show 48 ≤ 48 by omega), show cntW (fun W => fitW N sg W ns) 49 = _ from cnt_sh (fun W => fitW N sg W ns) 48]
      have hc : fitW N sg (cw 48) ns = fitW N sg 0 ns := rfl
      rw [hc]
      have z : ∀ v : Int32, v ||| 0 = v := fun v => Int32.or_zero
      cases fitW N sg 0 ns with
      | true =>
        rw [if_neg (show ¬ bI true = 0 by decide), z]
        congr 2
        show _ = 1 + _
        omega
      | false =>
        rw [if_pos (show bI false = 0 from rfl)]
        congr 2
        show _ = 0 + _
        omega
    · have hc : fitW N sg (cw R) ns = fitW N sg (R + 1) ns := by unfold cw; rw [if_neg c1]
      have ih1 := ih (R + 1) (by omega) (by omega)
      have h1 : cntW (fun r => fitW N sg (r + 1) ns) (R + 1) = cntW (fun r => fitW N sg (r + 1) ns) R + fI (fitW N sg (R + 1) ns) := rfl
      have h2 : mv (fun W => fitW N sg W ns) (R + 1) = if fitW N sg (R + 1) ns then mv (fun W => fitW N sg W ns) R ||| 2 ^ (R / 4) else mv (fun W => fitW N sg W ns) R := rfl
      rw [hc, if_neg (show ¬ 48 ≤ R by omega)]
      cases hf : fitW N sg (R + 1) ns with
      | true =>
        rw [hf] at h1 h2
        rw [if_neg (show ¬ bI true = 0 by decide)]
        rw [h1, h2] at ih1
        exact ih1
      | false =>
        rw [hf] at h1 h2
        rw [if_pos (show bI false = 0 from rfl)]
        rw [h1, h2] at ih1
        exact ih1
theorem k_liars (K : Core h c0 N ns sg np P im IM) (S : Scr h ns np) (x : Int32) : RR (f_X5_liars h 1 x) (f_X6_liars h 31 x) := by
  obtain ⟨-, -, -, -, -, ⟨a, b, c, d, e, u, G⟩, -⟩ := id S
  obtain ⟨ci, c1, c2, c3, c4, c5, -⟩ := cls_rd K
  unfold RR f_X5_liars f_X6_liars
  rcases ar_in 0 2 0 2 rfl rfl (by decide) (by decide) x with ⟨n1, n2⟩ | ⟨w, -, hw, rfl, n1, n2⟩
  · rw [n1, n2]; exact ⟨-2, rfl, rfl⟩
  rw [n1, n2, Option.bind_some, if_neg i1_ne0, Option.bind_some, if_neg i1_ne0, c5, Option.bind_some, c1, Option.bind_some, if_pos (go_is K.wor), c_fit K.bok K.iv K.sgl 28, Option.bind_some, show f_X6_liars_19 h gi_F 31 (nI w) 0 0 0 = _ from m_liars G K.mbk K.msg K.iv K.sgl (nI w) gi_F 0 (by omega) (by decide)]
  unfold f_X6_liars_64
  rw [cnt_mk, Option.bind_some, Option.bind_some, if_pos (go_is K.wor), c_moved, Option.bind_some, if_pos (go_is G), show f_X6_isWorld h 31 48 = _ from m_isW G K.mbk K.msg K.iv K.sgl (R := 48) (by decide), Option.bind_some]
  have hb : lN (mk (fun W => fitW N sg W ns) 49) &&& 1 = lN (fI (fitW N sg 0 ns)) := by
    show _ &&& lN 1 = _
    rw [l_and, Nat.and_one_is_mod]
    have h0 := mk_bit (fun W => fitW N sg W ns) 49 0
    rw [decide_eq_true (show 0 < 49 by decide), Bool.true_and, Nat.testBit_zero] at h0
    unfold fI
    rw [← h0]
    congr 1
    rcases Nat.mod_two_eq_zero_or_one (mk (fun W => fitW N sg W ns) 49) with z | z <;> simp [z]
  rw [hb, show fitW N sg (cw 48) ns = fitW N sg 0 ns from rfl]
  by_cases w0 : nI w = 0
  · rw [if_pos w0, if_pos w0]; exact ⟨_, rfl, rfl⟩
  · rw [if_neg w0, if_neg w0]
    by_cases w1 : nI w = 1
    · rw [if_pos w1, if_pos w1]; exact ⟨_, rfl, rfl⟩
    · rw [if_neg w1, if_neg w1]
      cases fitW N sg 0 ns with
      | true => exact ⟨1, if_neg (by rw [lgc_0 (by decide)]; decide), rfl⟩
      | false => exact ⟨0, if_pos ((lgc_0 (by decide)).mpr rfl), rfl⟩
end LIARS
