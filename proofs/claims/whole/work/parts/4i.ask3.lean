/-! ASK, 3: the reference's loops -/
section ASK3
variable {h : gi_H} {N : Nat → Nat} {ns : Nat} {sg : Nat → Nat} {np : Nat} {a : Int32} {b : Bool} {c d e : Int32} {u : Int64}
theorem wo_lt (f : Nat → Bool) (v : Nat → Nat) (n : Nat) : wo f v n ≤ 49 := by
  refine wo_le f v 49 (fun g => ?_) n
  rw [← ctp_49]
  exact ctp_le f v g 49
theorem m_a43 (G : go h 31 6 (mf ns np a b c d e u)) (B : ga h 32 63 N) (Q : ga h 34 24 sg) (I : inv N) (O : sgok ns sg) {y k : Nat} (hy : y < 4) (hk : k < 6) (K1 : Nat → Int32 → Int32 → Int32 → Int32 → Option Int32) (K2 : Nat → Int32 → Int32 → Int32 → Int32 → Int32 → Option Int32) (x1 x2 x3 : Int32) : ∀ n R, R ≤ 49 → 49 - R < n → f_X6_ask_43 h K1 K2 n 31 x1 x2 x3 (nI y) (nI k) (nI (wo (fun W => fitW N sg W ns) (fun W => gw N W y k) R)) (nI R) = f_X6_ask_142 h K1 K2 31 x1 x2 x3 (nI y) (nI k) (nI (wo (fun W => fitW N sg W ns) (fun W => gw N W y k) 49)) := by
  intro n
  induction n with
  | zero => intro R _ hn; omega
  | succ n ih =>
    intro R hR hn
    unfold f_X6_ask_43
    rw [n_ifge 49 49 rfl (by omega) (by decide)]
    by_cases c1 : R = 49
    · rw [if_pos (by omega), c1]
    · have ih1 := ih (R + 1) (by omega) (by omega)
      have hs : wo (fun W => fitW N sg W ns) (fun W => gw N W y k) (R + 1) = max (wo (fun W => fitW N sg W ns) (fun W => gw N W y k) R) (if fitW N sg (cw R) ns then ctW (fun W => fitW N sg W ns) (fun W => gw N W y k) (gw N (cw R) y k) 49 else 0) := rfl
      have hl := wo_lt (fun W => fitW N sg W ns) (fun W => gw N W y k) R
      rw [if_neg (by omega)]
      cases hf : fitW N sg (cw R) ns with
      | false =>
        have e0 : f_X6_ask_56 h K1 K2 (f_X6_ask_43 h K1 K2 n) gi_F 31 x1 x2 x3 (nI y) (nI k) (nI (wo (fun W => fitW N sg W ns) (fun W => gw N W y k) R)) (nI R) 0 0 = f_X6_ask_120 h K1 K2 (f_X6_ask_43 h K1 K2 n) 31 x1 x2 x3 (nI y) (nI k) (nI (wo (fun W => fitW N sg W ns) (fun W => gw N W y k) R)) (nI R) 0 := by
          show f_X6_ask_56 h K1 K2 _ (4999 + 1) 31 _ _ _ _ _ _ _ _ _ = _
          unfold f_X6_ask_56
          rw [if_neg (by decide), if_pos (go_is G), m_isW G B Q I O (by omega), hf, Option.bind_some, if_pos (show bI false = 0 from rfl)]
        rw [e0]
        unfold f_X6_ask_120
        rw [if_pos (show (0 : Int32) ≤ nI _ from by show nI 0 ≤ nI _; rw [nI_leI (by decide) (by omega)]; omega), nI_1]
        rw [hf, if_neg (by decide), Nat.max_eq_left (Nat.zero_le _)] at hs
        rw [hs] at ih1
        exact ih1
      | true =>
        have hc := ctp_le (fun W => fitW N sg W ns) (fun W => gw N W y k) (gw N (cw R) y k) 49
        rw [show f_X6_ask_56 h K1 K2 (f_X6_ask_43 h K1 K2 n) gi_F 31 x1 x2 x3 (nI y) (nI k) (nI (wo (fun W => fitW N sg W ns) (fun W => gw N W y k) R)) (nI R) 0 0 = _ from m_a56 G B Q I O (R := R) (by omega) hy hk hf K1 K2 _ x1 x2 x3 _ gi_F 0 (by omega) (by decide)]
        rw [hf, if_pos rfl, ← ctp_49] at hs
        unfold f_X6_ask_120
        generalize ctp (fun W => fitW N sg W ns) (fun W => gw N W y k) (gw N (cw R) y k) 49 = C at hc hs ⊢
        generalize wo (fun W => fitW N sg W ns) (fun W => gw N W y k) R = X at hl hs ⊢
        rw [n_ifle (nI X) X rfl (by omega) (by omega), nI_1]
        rw [hs] at ih1
        by_cases c2 : C ≤ X
        · rw [if_pos c2]; rw [Nat.max_eq_left c2] at ih1; exact ih1
        · rw [if_neg c2]; rw [Nat.max_eq_right (by omega)] at ih1; exact ih1
end ASK3
