/-! X6_gainsBy AdmiralGuineaModel.gainsBy(IIII)I -/
def f_X6_gainsBy_36 (h : gi_H) (k_6 : Nat → Int32 → Int32 → Int32 → Int32 → Int32 → Int32 → Option Int32) (x0 : Nat) (x1 : Int32) (x2 : Int32) (x3 : Int32) (x4 : Int32) (x5 : Int32) (x6 : Int32) (t0 : Int32) : Option Int32 :=
  (gi_fR h x0 6 0).bind fun y1 => (gi_ai h y1 0 14).bind fun y2 => (f_X6_has y2 x6).bind fun y3 => if y3 = 0 then k_6 x0 x1 x2 x3 x4 (x5 + 0) (x6 + 1)
  else (gi_fR h x0 6 0).bind fun y5 => (gi_ai h y5 0 (16 + (4 * x6))).bind fun y6 => if y6 = x2 then if t0 = x1 then (gi_fR h x0 6 0).bind fun y9 => (gi_ai h y9 0 (17 + (4 * x6))).bind fun y10 => k_6 x0 x1 x2 x3 x4 (x5 + y10) (x6 + 1)
  else k_6 x0 x1 x2 x3 x4 (x5 + 0) (x6 + 1)
  else k_6 x0 x1 x2 x3 x4 (x5 + 0) (x6 + 1)
set_option maxRecDepth 20000 in
set_option maxHeartbeats 2000000 in
theorem e_X6_gainsBy_36 (h : gi_H) (k_6 : Nat → Int32 → Int32 → Int32 → Int32 → Int32 → Int32 → Option Int32) (hk_6 : ∀ (g7 : Option Value) (x0 : Nat) (x1 : Int32) (x2 : Int32) (x3 : Int32) (x4 : Int32) (x5 : Int32) (x6 : Int32) (r : Int32), k_6 x0 x1 x2 x3 x4 x5 x6 = some r → gi_Ev M_X6_gainsBy 6 [some (.ref x0), some (.int x1), some (.int x2), some (.int x3), some (.int x4), some (.int x5), some (.int x6), g7] [] h (some (.int r), h)) (g7 : Option Value) (x0 : Nat) (x1 : Int32) (x2 : Int32) (x3 : Int32) (x4 : Int32) (x5 : Int32) (x6 : Int32) (t0 : Int32) (r : Int32) (hf : f_X6_gainsBy_36 h k_6 x0 x1 x2 x3 x4 x5 x6 t0 = some r) : gi_Ev M_X6_gainsBy 36 [some (.ref x0), some (.int x1), some (.int x2), some (.int x3), some (.int x4), some (.int x5), some (.int x6), g7] [.int t0] h (some (.int r), h) := by
  unfold f_X6_gainsBy_36 at hf
  refine gi_EvN 3 (pc' := 41) (lv' := [some (.ref x0), some (.int x1), some (.int x2), some (.int x3), some (.int x4), some (.int x5), some (.int x6), some (.int t0)]) (st' := [.ref x0, .int x5]) (h' := h) rfl ?_
  obtain ⟨y1, qy1, hf⟩ := gi_bind hf
  refine gi_EvF rfl (gi_fR_inv qy1) ?_
  refine gi_EvN 1 (pc' := 46) (lv' := [some (.ref x0), some (.int x1), some (.int x2), some (.int x3), some (.int x4), some (.int x5), some (.int x6), some (.int t0)]) (st' := [.int 14, .ref y1, .int x5]) (h' := h) rfl ?_
  obtain ⟨y2, qy2, hf⟩ := gi_bind hf
  refine gi_EvAi rfl qy2 ?_
  refine gi_EvN 1 (pc' := 49) (lv' := [some (.ref x0), some (.int x1), some (.int x2), some (.int x3), some (.int x4), some (.int x5), some (.int x6), some (.int t0)]) (st' := [.int x6, .int y2, .int x5]) (h' := h) rfl ?_
  obtain ⟨y3, qy3, hf⟩ := gi_bind hf
  refine gi_EvCS rfl rfl rfl rfl rfl (e_X6_has h _ _ _ qy3) ?_
  show gi_Ev M_X6_gainsBy 52 [some (.ref x0), some (.int x1), some (.int x2), some (.int x3), some (.int x4), some (.int x5), some (.int x6), some (.int t0)] [.int y3, .int x5] h _
  refine gi_Ev_eq rfl (fun c4 => ?_) (fun c4 => ?_)
  · rw [if_pos c4] at hf
    refine gi_EvN 5 (pc' := 6) (lv' := [some (.ref x0), some (.int x1), some (.int x2), some (.int x3), some (.int x4), some (.int (x5 + 0)), some (.int (x6 + 1)), some (.int t0)]) (st' := []) (h' := h) rfl ?_
    exact hk_6 _  _  _  _  _  _  _  _ _ hf
  · rw [if_neg c4] at hf
    refine gi_EvN 1 (pc' := 56) (lv' := [some (.ref x0), some (.int x1), some (.int x2), some (.int x3), some (.int x4), some (.int x5), some (.int x6), some (.int t0)]) (st' := [.ref x0, .int x5]) (h' := h) rfl ?_
    obtain ⟨y5, qy5, hf⟩ := gi_bind hf
    refine gi_EvF rfl (gi_fR_inv qy5) ?_
    refine gi_EvN 5 (pc' := 66) (lv' := [some (.ref x0), some (.int x1), some (.int x2), some (.int x3), some (.int x4), some (.int x5), some (.int x6), some (.int t0)]) (st' := [.int (16 + (4 * x6)), .ref y5, .int x5]) (h' := h) rfl ?_
    obtain ⟨y6, qy6, hf⟩ := gi_bind hf
    refine gi_EvAi rfl qy6 ?_
    refine gi_EvN 1 (pc' := 68) (lv' := [some (.ref x0), some (.int x1), some (.int x2), some (.int x3), some (.int x4), some (.int x5), some (.int x6), some (.int t0)]) (st' := [.int x2, .int y6, .int x5]) (h' := h) rfl ?_
    refine gi_Ev_ine rfl (fun c7 => ?_) (fun c7 => ?_)
    · rw [if_pos c7] at hf
      refine gi_EvN 2 (pc' := 74) (lv' := [some (.ref x0), some (.int x1), some (.int x2), some (.int x3), some (.int x4), some (.int x5), some (.int x6), some (.int t0)]) (st' := [.int x1, .int t0, .int x5]) (h' := h) rfl ?_
      refine gi_Ev_ine rfl (fun c8 => ?_) (fun c8 => ?_)
      · rw [if_pos c8] at hf
        refine gi_EvN 1 (pc' := 78) (lv' := [some (.ref x0), some (.int x1), some (.int x2), some (.int x3), some (.int x4), some (.int x5), some (.int x6), some (.int t0)]) (st' := [.ref x0, .int x5]) (h' := h) rfl ?_
        obtain ⟨y9, qy9, hf⟩ := gi_bind hf
        refine gi_EvF rfl (gi_fR_inv qy9) ?_
        refine gi_EvN 5 (pc' := 88) (lv' := [some (.ref x0), some (.int x1), some (.int x2), some (.int x3), some (.int x4), some (.int x5), some (.int x6), some (.int t0)]) (st' := [.int (17 + (4 * x6)), .ref y9, .int x5]) (h' := h) rfl ?_
        obtain ⟨y10, qy10, hf⟩ := gi_bind hf
        refine gi_EvAi rfl qy10 ?_
        refine gi_EvN 5 (pc' := 6) (lv' := [some (.ref x0), some (.int x1), some (.int x2), some (.int x3), some (.int x4), some (.int (x5 + y10)), some (.int (x6 + 1)), some (.int t0)]) (st' := []) (h' := h) rfl ?_
        exact hk_6 _  _  _  _  _  _  _  _ _ hf
      · rw [if_neg c8] at hf
        refine gi_EvN 5 (pc' := 6) (lv' := [some (.ref x0), some (.int x1), some (.int x2), some (.int x3), some (.int x4), some (.int (x5 + 0)), some (.int (x6 + 1)), some (.int t0)]) (st' := []) (h' := h) rfl ?_
        exact hk_6 _  _  _  _  _  _  _  _ _ hf
    · rw [if_neg c7] at hf
      refine gi_EvN 5 (pc' := 6) (lv' := [some (.ref x0), some (.int x1), some (.int x2), some (.int x3), some (.int x4), some (.int (x5 + 0)), some (.int (x6 + 1)), some (.int t0)]) (st' := []) (h' := h) rfl ?_
      exact hk_6 _  _  _  _  _  _  _  _ _ hf
def f_X6_gainsBy_6 (h : gi_H) : Nat → Nat → Int32 → Int32 → Int32 → Int32 → Int32 → Int32 → Option Int32
  | 0, _, _, _, _, _, _, _ => none
  | n + 1, x0, x1, x2, x3, x4, x5, x6 => if 12 ≤ x6 then some (x5)
  else if x6 = x3 then f_X6_gainsBy_36 h (f_X6_gainsBy_6 h n) x0 x1 x2 x3 x4 x5 x6 x4
  else (gi_fR h x0 6 0).bind fun y3 => (gi_ai h y3 0 (15 + (4 * x6))).bind fun y4 => f_X6_gainsBy_36 h (f_X6_gainsBy_6 h n) x0 x1 x2 x3 x4 x5 x6 y4
set_option maxRecDepth 20000 in
set_option maxHeartbeats 2000000 in
theorem e_X6_gainsBy_6 (h : gi_H) : ∀ (n : Nat) (g7 : Option Value) (x0 : Nat) (x1 : Int32) (x2 : Int32) (x3 : Int32) (x4 : Int32) (x5 : Int32) (x6 : Int32) (r : Int32), f_X6_gainsBy_6 h n x0 x1 x2 x3 x4 x5 x6 = some r → gi_Ev M_X6_gainsBy 6 [some (.ref x0), some (.int x1), some (.int x2), some (.int x3), some (.int x4), some (.int x5), some (.int x6), g7] [] h (some (.int r), h) := by
  intro n
  induction n with
  | zero =>
    intro g7 x0 x1 x2 x3 x4 x5 x6 r hf
    unfold f_X6_gainsBy_6 at hf
    cases hf
  | succ n ih =>
    intro g7 x0 x1 x2 x3 x4 x5 x6 r hf
    unfold f_X6_gainsBy_6 at hf
    refine gi_EvN 2 (pc' := 10) (lv' := [some (.ref x0), some (.int x1), some (.int x2), some (.int x3), some (.int x4), some (.int x5), some (.int x6), g7]) (st' := [.int 12, .int x6]) (h' := h) rfl ?_
    refine gi_Ev_ige rfl (fun c1 => ?_) (fun c1 => ?_)
    · rw [if_pos c1] at hf
      refine gi_EvN 1 (pc' := 104) (lv' := [some (.ref x0), some (.int x1), some (.int x2), some (.int x3), some (.int x4), some (.int x5), some (.int x6), g7]) (st' := [.int x5]) (h' := h) rfl ?_
      cases hf
      exact gi_EvR rfl rfl
    · rw [if_neg c1] at hf
      refine gi_EvN 2 (pc' := 16) (lv' := [some (.ref x0), some (.int x1), some (.int x2), some (.int x3), some (.int x4), some (.int x5), some (.int x6), g7]) (st' := [.int x3, .int x6]) (h' := h) rfl ?_
      refine gi_Ev_ine rfl (fun c2 => ?_) (fun c2 => ?_)
      · rw [if_pos c2] at hf
        refine gi_EvN 2 (pc' := 36) (lv' := [some (.ref x0), some (.int x1), some (.int x2), some (.int x3), some (.int x4), some (.int x5), some (.int x6), g7]) (st' := [.int x4]) (h' := h) rfl ?_
        exact e_X6_gainsBy_36 h _ ih _ _ _ _ _ _ _ _ _ _ hf
      · rw [if_neg c2] at hf
        refine gi_EvN 1 (pc' := 25) (lv' := [some (.ref x0), some (.int x1), some (.int x2), some (.int x3), some (.int x4), some (.int x5), some (.int x6), g7]) (st' := [.ref x0]) (h' := h) rfl ?_
        obtain ⟨y3, qy3, hf⟩ := gi_bind hf
        refine gi_EvF rfl (gi_fR_inv qy3) ?_
        refine gi_EvN 5 (pc' := 35) (lv' := [some (.ref x0), some (.int x1), some (.int x2), some (.int x3), some (.int x4), some (.int x5), some (.int x6), g7]) (st' := [.int (15 + (4 * x6)), .ref y3]) (h' := h) rfl ?_
        obtain ⟨y4, qy4, hf⟩ := gi_bind hf
        refine gi_EvAi rfl qy4 ?_
        exact e_X6_gainsBy_36 h _ ih _ _ _ _ _ _ _ _ _ _ hf
def f_X6_gainsBy (h : gi_H) (x0 : Nat) (x1 : Int32) (x2 : Int32) (x3 : Int32) (x4 : Int32) : Option Int32 :=
  f_X6_gainsBy_6 h gi_F x0 x1 x2 x3 x4 0 0
set_option maxRecDepth 20000 in
set_option maxHeartbeats 2000000 in
theorem e_X6_gainsBy (h : gi_H) (x0 : Nat) (x1 : Int32) (x2 : Int32) (x3 : Int32) (x4 : Int32) (r : Int32) (hf : f_X6_gainsBy h x0 x1 x2 x3 x4 = some r) : gi_Ev M_X6_gainsBy 0 [some (.ref x0), some (.int x1), some (.int x2), some (.int x3), some (.int x4), none, none, none] [] h (some (.int r), h) := by
  unfold f_X6_gainsBy at hf
  refine gi_EvN 4 (pc' := 6) (lv' := [some (.ref x0), some (.int x1), some (.int x2), some (.int x3), some (.int x4), some (.int 0), some (.int 0), none]) (st' := []) (h' := h) rfl ?_
  exact e_X6_gainsBy_6 h gi_F _ _ _ _ _ _ _ _ _ hf
/-! X6_gains AdmiralGuineaModel.gains(II)I -/
def f_X6_gains (h : gi_H) (x0 : Nat) (x1 : Int32) (x2 : Int32) : Option Int32 :=
  (f_X6_isBuyer x1).bind fun y1 => if y1 = 0 then some ((-1))
  else (f_X6_isLife x2).bind fun y3 => if y3 = 0 then some ((-1))
  else if gi_is h x0 6 = true then (f_X6_gainsBy h x0 x1 x2 (-6) 0).bind fun y5 => some (y5) else none
set_option maxRecDepth 20000 in
set_option maxHeartbeats 2000000 in
theorem e_X6_gains (h : gi_H) (x0 : Nat) (x1 : Int32) (x2 : Int32) (r : Int32) (hf : f_X6_gains h x0 x1 x2 = some r) : gi_Ev M_X6_gains 0 [some (.ref x0), some (.int x1), some (.int x2)] [] h (some (.int r), h) := by
  unfold f_X6_gains at hf
  refine gi_EvN 1 (pc' := 1) (lv' := [some (.ref x0), some (.int x1), some (.int x2)]) (st' := [.int x1]) (h' := h) rfl ?_
  obtain ⟨y1, qy1, hf⟩ := gi_bind hf
  refine gi_EvCS rfl rfl rfl rfl rfl (e_X6_isBuyer h _ _ qy1) ?_
  show gi_Ev M_X6_gains 4 [some (.ref x0), some (.int x1), some (.int x2)] [.int y1] h _
  refine gi_Ev_eq rfl (fun c2 => ?_) (fun c2 => ?_)
  · rw [if_pos c2] at hf
    refine gi_EvN 1 (pc' := 27) (lv' := [some (.ref x0), some (.int x1), some (.int x2)]) (st' := [.int (-1)]) (h' := h) rfl ?_
    cases hf
    exact gi_EvR rfl rfl
  · rw [if_neg c2] at hf
    refine gi_EvN 1 (pc' := 8) (lv' := [some (.ref x0), some (.int x1), some (.int x2)]) (st' := [.int x2]) (h' := h) rfl ?_
    obtain ⟨y3, qy3, hf⟩ := gi_bind hf
    refine gi_EvCS rfl rfl rfl rfl rfl (e_X6_isLife h _ _ qy3) ?_
    show gi_Ev M_X6_gains 11 [some (.ref x0), some (.int x1), some (.int x2)] [.int y3] h _
    refine gi_Ev_eq rfl (fun c4 => ?_) (fun c4 => ?_)
    · rw [if_pos c4] at hf
      refine gi_EvN 1 (pc' := 27) (lv' := [some (.ref x0), some (.int x1), some (.int x2)]) (st' := [.int (-1)]) (h' := h) rfl ?_
      cases hf
      exact gi_EvR rfl rfl
    · rw [if_neg c4] at hf
      refine gi_EvN 5 (pc' := 20) (lv' := [some (.ref x0), some (.int x1), some (.int x2)]) (st' := [.int 0, .int (-6), .int x2, .int x1, .ref x0]) (h' := h) rfl ?_
      by_cases c6 : gi_is h x0 6 = true
      rotate_left
      · rw [if_neg c6] at hf; cases hf
      rw [if_pos c6] at hf
      obtain ⟨y5, qy5, hf⟩ := gi_bind hf
      refine gi_EvCV rfl rfl c6 rfl rfl (e_X6_gainsBy h _ _ _ _ _ _ qy5) ?_
      show gi_Ev M_X6_gains 23 [some (.ref x0), some (.int x1), some (.int x2)] [.int y5] h _
      refine gi_EvN 1 (pc' := 27) (lv' := [some (.ref x0), some (.int x1), some (.int x2)]) (st' := [.int y5]) (h' := h) rfl ?_
      cases hf
      exact gi_EvR rfl rfl
/-! X6_worth AdmiralGuineaModel.worth(I)I -/
def f_X6_worth_48 (h : gi_H) (k_17 : Nat → Int32 → Int32 → Int32 → Int32 → Option Int32) (x0 : Nat) (x1 : Int32) (x3 : Int32) (x4 : Int32) (x5 : Int32) (t0 : Int32) : Option Int32 :=
  if x5 ≤ x3 then k_17 x0 x1 t0 x3 (x4 + 1)
  else k_17 x0 x1 t0 x5 (x4 + 1)
set_option maxRecDepth 20000 in
set_option maxHeartbeats 2000000 in
theorem e_X6_worth_48 (h : gi_H) (k_17 : Nat → Int32 → Int32 → Int32 → Int32 → Option Int32) (hk_17 : ∀ (g5 : Option Value) (x0 : Nat) (x1 : Int32) (x2 : Int32) (x3 : Int32) (x4 : Int32) (r : Int32), k_17 x0 x1 x2 x3 x4 = some r → gi_Ev M_X6_worth 17 [some (.ref x0), some (.int x1), some (.int x2), some (.int x3), some (.int x4), g5] [] h (some (.int r), h)) (g2 : Option Value) (x0 : Nat) (x1 : Int32) (x3 : Int32) (x4 : Int32) (x5 : Int32) (t0 : Int32) (r : Int32) (hf : f_X6_worth_48 h k_17 x0 x1 x3 x4 x5 t0 = some r) : gi_Ev M_X6_worth 48 [some (.ref x0), some (.int x1), g2, some (.int x3), some (.int x4), some (.int x5)] [.int t0] h (some (.int r), h) := by
  unfold f_X6_worth_48 at hf
  refine gi_EvN 3 (pc' := 52) (lv' := [some (.ref x0), some (.int x1), some (.int t0), some (.int x3), some (.int x4), some (.int x5)]) (st' := [.int x3, .int x5]) (h' := h) rfl ?_
  refine gi_Ev_ile rfl (fun c1 => ?_) (fun c1 => ?_)
  · rw [if_pos c1] at hf
    refine gi_EvN 4 (pc' := 17) (lv' := [some (.ref x0), some (.int x1), some (.int t0), some (.int x3), some (.int (x4 + 1)), some (.int x5)]) (st' := []) (h' := h) rfl ?_
    exact hk_17 _  _  _  _  _  _ _ hf
  · rw [if_neg c1] at hf
    refine gi_EvN 5 (pc' := 17) (lv' := [some (.ref x0), some (.int x1), some (.int t0), some (.int x5), some (.int (x4 + 1)), some (.int x5)]) (st' := []) (h' := h) rfl ?_
    exact hk_17 _  _  _  _  _  _ _ hf
def f_X6_worth_17 (h : gi_H) : Nat → Nat → Int32 → Int32 → Int32 → Int32 → Option Int32
  | 0, _, _, _, _, _ => none
  | n + 1, x0, x1, x2, x3, x4 => if 6 ≤ x4 then some (x2)
  else if gi_is h x0 6 = true then (f_X6_gainsBy h x0 x1 x4 (-6) 0).bind fun y2 => if y2 ≤ x3 then f_X6_worth_48 h (f_X6_worth_17 h n) x0 x1 x3 x4 y2 x2
  else f_X6_worth_48 h (f_X6_worth_17 h n) x0 x1 x3 x4 y2 x4 else none
set_option maxRecDepth 20000 in
set_option maxHeartbeats 2000000 in
theorem e_X6_worth_17 (h : gi_H) : ∀ (n : Nat) (g5 : Option Value) (x0 : Nat) (x1 : Int32) (x2 : Int32) (x3 : Int32) (x4 : Int32) (r : Int32), f_X6_worth_17 h n x0 x1 x2 x3 x4 = some r → gi_Ev M_X6_worth 17 [some (.ref x0), some (.int x1), some (.int x2), some (.int x3), some (.int x4), g5] [] h (some (.int r), h) := by
  intro n
  induction n with
  | zero =>
    intro g5 x0 x1 x2 x3 x4 r hf
    unfold f_X6_worth_17 at hf
    cases hf
  | succ n ih =>
    intro g5 x0 x1 x2 x3 x4 r hf
    unfold f_X6_worth_17 at hf
    refine gi_EvN 2 (pc' := 21) (lv' := [some (.ref x0), some (.int x1), some (.int x2), some (.int x3), some (.int x4), g5]) (st' := [.int 6, .int x4]) (h' := h) rfl ?_
    refine gi_Ev_ige rfl (fun c1 => ?_) (fun c1 => ?_)
    · rw [if_pos c1] at hf
      refine gi_EvN 1 (pc' := 69) (lv' := [some (.ref x0), some (.int x1), some (.int x2), some (.int x3), some (.int x4), g5]) (st' := [.int x2]) (h' := h) rfl ?_
      cases hf
      exact gi_EvR rfl rfl
    · rw [if_neg c1] at hf
      refine gi_EvN 5 (pc' := 31) (lv' := [some (.ref x0), some (.int x1), some (.int x2), some (.int x3), some (.int x4), g5]) (st' := [.int 0, .int (-6), .int x4, .int x1, .ref x0]) (h' := h) rfl ?_
      by_cases c3 : gi_is h x0 6 = true
      rotate_left
      · rw [if_neg c3] at hf; cases hf
      rw [if_pos c3] at hf
      obtain ⟨y2, qy2, hf⟩ := gi_bind hf
      refine gi_EvCV rfl rfl c3 rfl rfl (e_X6_gainsBy h _ _ _ _ _ _ qy2) ?_
      show gi_Ev M_X6_worth 34 [some (.ref x0), some (.int x1), some (.int x2), some (.int x3), some (.int x4), g5] [.int y2] h _
      refine gi_EvN 3 (pc' := 39) (lv' := [some (.ref x0), some (.int x1), some (.int x2), some (.int x3), some (.int x4), some (.int y2)]) (st' := [.int x3, .int y2]) (h' := h) rfl ?_
      refine gi_Ev_ile rfl (fun c4 => ?_) (fun c4 => ?_)
      · rw [if_pos c4] at hf
        refine gi_EvN 1 (pc' := 48) (lv' := [some (.ref x0), some (.int x1), some (.int x2), some (.int x3), some (.int x4), some (.int y2)]) (st' := [.int x2]) (h' := h) rfl ?_
        exact e_X6_worth_48 h _ ih _ _ _ _ _ _ _ _ hf
      · rw [if_neg c4] at hf
        refine gi_EvN 2 (pc' := 48) (lv' := [some (.ref x0), some (.int x1), some (.int x2), some (.int x3), some (.int x4), some (.int y2)]) (st' := [.int x4]) (h' := h) rfl ?_
        exact e_X6_worth_48 h _ ih _ _ _ _ _ _ _ _ hf
def f_X6_worth (h : gi_H) (x0 : Nat) (x1 : Int32) : Option Int32 :=
  (f_X6_isBuyer x1).bind fun y1 => if y1 = 0 then some ((-1))
  else f_X6_worth_17 h gi_F x0 x1 (-6) 0 0
set_option maxRecDepth 20000 in
set_option maxHeartbeats 2000000 in
theorem e_X6_worth (h : gi_H) (x0 : Nat) (x1 : Int32) (r : Int32) (hf : f_X6_worth h x0 x1 = some r) : gi_Ev M_X6_worth 0 [some (.ref x0), some (.int x1), none, none, none, none] [] h (some (.int r), h) := by
  unfold f_X6_worth at hf
  refine gi_EvN 1 (pc' := 1) (lv' := [some (.ref x0), some (.int x1), none, none, none, none]) (st' := [.int x1]) (h' := h) rfl ?_
  obtain ⟨y1, qy1, hf⟩ := gi_bind hf
  refine gi_EvCS rfl rfl rfl rfl rfl (e_X6_isBuyer h _ _ qy1) ?_
  show gi_Ev M_X6_worth 4 [some (.ref x0), some (.int x1), none, none, none, none] [.int y1] h _
  refine gi_Ev_ne rfl (fun c2 => ?_) (fun c2 => ?_)
  · rw [if_pos c2] at hf
    refine gi_EvN 1 (pc' := 8) (lv' := [some (.ref x0), some (.int x1), none, none, none, none]) (st' := [.int (-1)]) (h' := h) rfl ?_
    cases hf
    exact gi_EvR rfl rfl
  · rw [if_neg c2] at hf
    refine gi_EvN 6 (pc' := 17) (lv' := [some (.ref x0), some (.int x1), some (.int (-6)), some (.int 0), some (.int 0), none]) (st' := []) (h' := h) rfl ?_
    exact e_X6_worth_17 h gi_F _ _ _ _ _ _ _ hf
/-! X6_digit AdmiralGuineaModel.digit(II)I -/
def f_X6_digit_20 (x2 : Int32) : Option Int32 :=
  some ((x2 - x2 / 10 * 10))
set_option maxRecDepth 20000 in
set_option maxHeartbeats 2000000 in
theorem e_X6_digit_20 (h : gi_H) (g0 : Option Value) (g1 : Option Value) (g3 : Option Value) (x2 : Int32) (r : Int32) (hf : f_X6_digit_20 x2 = some r) : gi_Ev M_X6_digit 20 [g0, g1, some (.int x2), g3] [] h (some (.int r), h) := by
  unfold f_X6_digit_20 at hf
  refine gi_EvN 2 (pc' := 23) (lv' := [g0, g1, some (.int x2), g3]) (st' := [.int 10, .int x2]) (h' := h) rfl ?_
  refine gi_EvRi rfl (by decide) ?_
  cases hf
  exact gi_EvR rfl rfl
def f_X6_digit_4 : Nat → Int32 → Int32 → Option Int32
  | 0, _, _ => none
  | n + 1, x2, x3 => if 5 ≤ x3 then f_X6_digit_20 x2
  else f_X6_digit_4 n (x2 / 10) (x3 + 1)
set_option maxRecDepth 20000 in
set_option maxHeartbeats 2000000 in
theorem e_X6_digit_4 (h : gi_H) : ∀ (n : Nat) (g0 : Option Value) (g1 : Option Value) (x2 : Int32) (x3 : Int32) (r : Int32), f_X6_digit_4 n x2 x3 = some r → gi_Ev M_X6_digit 4 [g0, g1, some (.int x2), some (.int x3)] [] h (some (.int r), h) := by
  intro n
  induction n with
  | zero =>
    intro g0 g1 x2 x3 r hf
    unfold f_X6_digit_4 at hf
    cases hf
  | succ n ih =>
    intro g0 g1 x2 x3 r hf
    unfold f_X6_digit_4 at hf
    refine gi_EvN 2 (pc' := 6) (lv' := [g0, g1, some (.int x2), some (.int x3)]) (st' := [.int 5, .int x3]) (h' := h) rfl ?_
    refine gi_Ev_ige rfl (fun c1 => ?_) (fun c1 => ?_)
    · rw [if_pos c1] at hf
      exact e_X6_digit_20 h _ _ _ _ _ hf
    · rw [if_neg c1] at hf
      refine gi_EvN 2 (pc' := 12) (lv' := [g0, g1, some (.int x2), some (.int x3)]) (st' := [.int 10, .int x2]) (h' := h) rfl ?_
      refine gi_EvDi rfl (by decide) ?_
      refine gi_EvN 3 (pc' := 4) (lv' := [g0, (gi_cl g1), some (.int (x2 / 10)), some (.int (x3 + 1))]) (st' := []) (h' := h) rfl ?_
      exact ih _ _  _  _ _ hf
def f_X6_digit (x0 : Int32) (x1 : Int32) : Option Int32 :=
  f_X6_digit_4 gi_F x0 x1
set_option maxRecDepth 20000 in
set_option maxHeartbeats 2000000 in
theorem e_X6_digit (h : gi_H) (x0 : Int32) (x1 : Int32) (r : Int32) (hf : f_X6_digit x0 x1 = some r) : gi_Ev M_X6_digit 0 [some (.int x0), some (.int x1), none, none] [] h (some (.int r), h) := by
  unfold f_X6_digit at hf
  refine gi_EvN 4 (pc' := 4) (lv' := [some (.int x0), some (.int x1), some (.int x0), some (.int x1)]) (st' := []) (h' := h) rfl ?_
  exact e_X6_digit_4 h gi_F _ _ _ _ _ hf
/-! X6_areOffers AdmiralGuineaModel.areOffers(III)Z -/
def f_X6_areOffers (x0 : Int32) (x1 : Int32) (x2 : Int32) : Option Int32 :=
  (f_X6_in x0 0 999999).bind fun y1 => if y1 = 0 then some (0)
  else (f_X6_in x1 0 999999).bind fun y3 => if y3 = 0 then some (0)
  else (f_X6_in x2 1 9).bind fun y5 => if y5 = 0 then some (0)
  else some (1)
set_option maxRecDepth 20000 in
set_option maxHeartbeats 2000000 in
theorem e_X6_areOffers (h : gi_H) (x0 : Int32) (x1 : Int32) (x2 : Int32) (r : Int32) (hf : f_X6_areOffers x0 x1 x2 = some r) : gi_Ev M_X6_areOffers 0 [some (.int x0), some (.int x1), some (.int x2)] [] h (some (.int r), h) := by
  unfold f_X6_areOffers at hf
  refine gi_EvN 3 (pc' := 4) (lv' := [some (.int x0), some (.int x1), some (.int x2)]) (st' := [.int 999999, .int 0, .int x0]) (h' := h) rfl ?_
  obtain ⟨y1, qy1, hf⟩ := gi_bind hf
  refine gi_EvCS rfl rfl rfl rfl rfl (e_X6_in h _ _ _ _ qy1) ?_
  show gi_Ev M_X6_areOffers 7 [some (.int x0), some (.int x1), some (.int x2)] [.int y1] h _
  refine gi_Ev_eq rfl (fun c2 => ?_) (fun c2 => ?_)
  · rw [if_pos c2] at hf
    refine gi_EvN 1 (pc' := 35) (lv' := [some (.int x0), some (.int x1), some (.int x2)]) (st' := [.int 0]) (h' := h) rfl ?_
    cases hf
    exact gi_EvR rfl rfl
  · rw [if_neg c2] at hf
    refine gi_EvN 3 (pc' := 14) (lv' := [some (.int x0), some (.int x1), some (.int x2)]) (st' := [.int 999999, .int 0, .int x1]) (h' := h) rfl ?_
    obtain ⟨y3, qy3, hf⟩ := gi_bind hf
    refine gi_EvCS rfl rfl rfl rfl rfl (e_X6_in h _ _ _ _ qy3) ?_
    show gi_Ev M_X6_areOffers 17 [some (.int x0), some (.int x1), some (.int x2)] [.int y3] h _
    refine gi_Ev_eq rfl (fun c4 => ?_) (fun c4 => ?_)
    · rw [if_pos c4] at hf
      refine gi_EvN 1 (pc' := 35) (lv' := [some (.int x0), some (.int x1), some (.int x2)]) (st' := [.int 0]) (h' := h) rfl ?_
      cases hf
      exact gi_EvR rfl rfl
    · rw [if_neg c4] at hf
      refine gi_EvN 3 (pc' := 24) (lv' := [some (.int x0), some (.int x1), some (.int x2)]) (st' := [.int 9, .int 1, .int x2]) (h' := h) rfl ?_
      obtain ⟨y5, qy5, hf⟩ := gi_bind hf
      refine gi_EvCS rfl rfl rfl rfl rfl (e_X6_in h _ _ _ _ qy5) ?_
      show gi_Ev M_X6_areOffers 27 [some (.int x0), some (.int x1), some (.int x2)] [.int y5] h _
      refine gi_Ev_eq rfl (fun c6 => ?_) (fun c6 => ?_)
      · rw [if_pos c6] at hf
        refine gi_EvN 1 (pc' := 35) (lv' := [some (.int x0), some (.int x1), some (.int x2)]) (st' := [.int 0]) (h' := h) rfl ?_
        cases hf
        exact gi_EvR rfl rfl
      · rw [if_neg c6] at hf
        refine gi_EvN 2 (pc' := 35) (lv' := [some (.int x0), some (.int x1), some (.int x2)]) (st' := [.int 1]) (h' := h) rfl ?_
        cases hf
        exact gi_EvR rfl rfl
/-! X6_bestSet AdmiralGuineaModel.bestSet(IIII)I -/
def f_X6_bestSet_114 (k_21 : gi_H → Nat → Int32 → Int32 → Int32 → Int32 → Int64 → Int32 → Int32 → Option (Int32 × gi_H)) (k_40 : gi_H → Nat → Int32 → Int32 → Int32 → Int32 → Int64 → Int32 → Int32 → Int32 → Int64 → Int32 → Int32 → Option (Int32 × gi_H)) (h : gi_H) (x0 : Nat) (x1 : Int32) (x2 : Int32) (x3 : Int32) (x4 : Int32) (x5 : Int64) (x7 : Int32) (x8 : Int32) (x9 : Int32) (x10 : Int64) (x13 : Int32) (x14 : Int32) (x15 : Int32) (t0 : Int32) : Option (Int32 × gi_H) :=
  (f_X6_digit x3 x13).bind fun y1 => (f_X6_power (10 - (Int32.toInt64 y1)) x4).bind fun y2 => k_40 h x0 x1 x2 x3 x4 x5 x7 x8 (x9 + x15) (x10 + (((Int32.toInt64 x14) * (x5 - y2)) - ((Int32.toInt64 x15) * x5))) t0 (x13 + 1)
set_option maxRecDepth 20000 in
set_option maxHeartbeats 2000000 in
theorem e_X6_bestSet_114 (k_21 : gi_H → Nat → Int32 → Int32 → Int32 → Int32 → Int64 → Int32 → Int32 → Option (Int32 × gi_H)) (hk_21 : ∀ (g6 : Option Value) (g9 : Option Value) (g10 : Option Value) (g11 : Option Value) (g12 : Option Value) (g13 : Option Value) (g14 : Option Value) (g15 : Option Value) (h : gi_H) (x0 : Nat) (x1 : Int32) (x2 : Int32) (x3 : Int32) (x4 : Int32) (x5 : Int64) (x7 : Int32) (x8 : Int32) (r : (Int32 × gi_H)), k_21 h x0 x1 x2 x3 x4 x5 x7 x8 = some r → gi_Ev M_X6_bestSet 21 [some (.ref x0), some (.int x1), some (.int x2), some (.int x3), some (.int x4), some (.long x5), g6, some (.int x7), some (.int x8), g9, g10, g11, g12, g13, g14, g15] [] h (some (.int r.1), r.2)) (k_40 : gi_H → Nat → Int32 → Int32 → Int32 → Int32 → Int64 → Int32 → Int32 → Int32 → Int64 → Int32 → Int32 → Option (Int32 × gi_H)) (hk_40 : ∀ (g6 : Option Value) (g11 : Option Value) (g14 : Option Value) (g15 : Option Value) (h : gi_H) (x0 : Nat) (x1 : Int32) (x2 : Int32) (x3 : Int32) (x4 : Int32) (x5 : Int64) (x7 : Int32) (x8 : Int32) (x9 : Int32) (x10 : Int64) (x12 : Int32) (x13 : Int32) (r : (Int32 × gi_H)), k_40 h x0 x1 x2 x3 x4 x5 x7 x8 x9 x10 x12 x13 = some r → gi_Ev M_X6_bestSet 40 [some (.ref x0), some (.int x1), some (.int x2), some (.int x3), some (.int x4), some (.long x5), g6, some (.int x7), some (.int x8), some (.int x9), some (.long x10), g11, some (.int x12), some (.int x13), g14, g15] [] h (some (.int r.1), r.2)) (g6 : Option Value) (g11 : Option Value) (g12 : Option Value) (h : gi_H) (x0 : Nat) (x1 : Int32) (x2 : Int32) (x3 : Int32) (x4 : Int32) (x5 : Int64) (x7 : Int32) (x8 : Int32) (x9 : Int32) (x10 : Int64) (x13 : Int32) (x14 : Int32) (x15 : Int32) (t0 : Int32) (r : (Int32 × gi_H)) (hf : f_X6_bestSet_114 k_21 k_40 h x0 x1 x2 x3 x4 x5 x7 x8 x9 x10 x13 x14 x15 t0 = some r) : gi_Ev M_X6_bestSet 114 [some (.ref x0), some (.int x1), some (.int x2), some (.int x3), some (.int x4), some (.long x5), g6, some (.int x7), some (.int x8), some (.int x9), some (.long x10), g11, g12, some (.int x13), some (.int x14), some (.int x15)] [.int t0] h (some (.int r.1), r.2) := by
  unfold f_X6_bestSet_114 at hf
  refine gi_EvN 12 (pc' := 136) (lv' := [some (.ref x0), some (.int x1), some (.int x2), some (.int x3), some (.int x4), some (.long x5), g6, some (.int x7), some (.int x8), some (.int (x9 + x15)), some (.long x10), (gi_cl g11), some (.int t0), some (.int x13), some (.int x14), some (.int x15)]) (st' := [.int x13, .int x3, .long 10, .long x5, .long (Int32.toInt64 x14), .long x10]) (h' := h) rfl ?_
  obtain ⟨y1, qy1, hf⟩ := gi_bind hf
  refine gi_EvCS rfl rfl rfl rfl rfl (e_X6_digit h _ _ _ qy1) ?_
  show gi_Ev M_X6_bestSet 139 [some (.ref x0), some (.int x1), some (.int x2), some (.int x3), some (.int x4), some (.long x5), g6, some (.int x7), some (.int x8), some (.int (x9 + x15)), some (.long x10), (gi_cl g11), some (.int t0), some (.int x13), some (.int x14), some (.int x15)] [.int y1, .long 10, .long x5, .long (Int32.toInt64 x14), .long x10] h _
  refine gi_EvN 3 (pc' := 143) (lv' := [some (.ref x0), some (.int x1), some (.int x2), some (.int x3), some (.int x4), some (.long x5), g6, some (.int x7), some (.int x8), some (.int (x9 + x15)), some (.long x10), (gi_cl g11), some (.int t0), some (.int x13), some (.int x14), some (.int x15)]) (st' := [.int x4, .long (10 - (Int32.toInt64 y1)), .long x5, .long (Int32.toInt64 x14), .long x10]) (h' := h) rfl ?_
  obtain ⟨y2, qy2, hf⟩ := gi_bind hf
  refine gi_EvCS rfl rfl rfl rfl rfl (e_X6_power h _ _ _ qy2) ?_
  show gi_Ev M_X6_bestSet 146 [some (.ref x0), some (.int x1), some (.int x2), some (.int x3), some (.int x4), some (.long x5), g6, some (.int x7), some (.int x8), some (.int (x9 + x15)), some (.long x10), (gi_cl g11), some (.int t0), some (.int x13), some (.int x14), some (.int x15)] [.long y2, .long x5, .long (Int32.toInt64 x14), .long x10] h _
  refine gi_EvN 11 (pc' := 40) (lv' := [some (.ref x0), some (.int x1), some (.int x2), some (.int x3), some (.int x4), some (.long x5), g6, some (.int x7), some (.int x8), some (.int (x9 + x15)), some (.long (x10 + (((Int32.toInt64 x14) * (x5 - y2)) - ((Int32.toInt64 x15) * x5)))), none, some (.int t0), some (.int (x13 + 1)), some (.int x14), some (.int x15)]) (st' := []) (h' := h) rfl ?_
  exact hk_40 _ _ _ _ _ _  _  _  _  _  _  _  _  _  _  _  _ _ hf
def f_X6_bestSet_113 (k_21 : gi_H → Nat → Int32 → Int32 → Int32 → Int32 → Int64 → Int32 → Int32 → Option (Int32 × gi_H)) (k_40 : gi_H → Nat → Int32 → Int32 → Int32 → Int32 → Int64 → Int32 → Int32 → Int32 → Int64 → Int32 → Int32 → Option (Int32 × gi_H)) (h : gi_H) (x0 : Nat) (x1 : Int32) (x2 : Int32) (x3 : Int32) (x4 : Int32) (x5 : Int64) (x7 : Int32) (x8 : Int32) (x9 : Int32) (x10 : Int64) (x13 : Int32) (x14 : Int32) (x15 : Int32) : Option (Int32 × gi_H) :=
  f_X6_bestSet_114 k_21 k_40 h x0 x1 x2 x3 x4 x5 x7 x8 x9 x10 x13 x14 x15 0
set_option maxRecDepth 20000 in
set_option maxHeartbeats 2000000 in
theorem e_X6_bestSet_113 (k_21 : gi_H → Nat → Int32 → Int32 → Int32 → Int32 → Int64 → Int32 → Int32 → Option (Int32 × gi_H)) (hk_21 : ∀ (g6 : Option Value) (g9 : Option Value) (g10 : Option Value) (g11 : Option Value) (g12 : Option Value) (g13 : Option Value) (g14 : Option Value) (g15 : Option Value) (h : gi_H) (x0 : Nat) (x1 : Int32) (x2 : Int32) (x3 : Int32) (x4 : Int32) (x5 : Int64) (x7 : Int32) (x8 : Int32) (r : (Int32 × gi_H)), k_21 h x0 x1 x2 x3 x4 x5 x7 x8 = some r → gi_Ev M_X6_bestSet 21 [some (.ref x0), some (.int x1), some (.int x2), some (.int x3), some (.int x4), some (.long x5), g6, some (.int x7), some (.int x8), g9, g10, g11, g12, g13, g14, g15] [] h (some (.int r.1), r.2)) (k_40 : gi_H → Nat → Int32 → Int32 → Int32 → Int32 → Int64 → Int32 → Int32 → Int32 → Int64 → Int32 → Int32 → Option (Int32 × gi_H)) (hk_40 : ∀ (g6 : Option Value) (g11 : Option Value) (g14 : Option Value) (g15 : Option Value) (h : gi_H) (x0 : Nat) (x1 : Int32) (x2 : Int32) (x3 : Int32) (x4 : Int32) (x5 : Int64) (x7 : Int32) (x8 : Int32) (x9 : Int32) (x10 : Int64) (x12 : Int32) (x13 : Int32) (r : (Int32 × gi_H)), k_40 h x0 x1 x2 x3 x4 x5 x7 x8 x9 x10 x12 x13 = some r → gi_Ev M_X6_bestSet 40 [some (.ref x0), some (.int x1), some (.int x2), some (.int x3), some (.int x4), some (.long x5), g6, some (.int x7), some (.int x8), some (.int x9), some (.long x10), g11, some (.int x12), some (.int x13), g14, g15] [] h (some (.int r.1), r.2)) (g6 : Option Value) (g11 : Option Value) (g12 : Option Value) (h : gi_H) (x0 : Nat) (x1 : Int32) (x2 : Int32) (x3 : Int32) (x4 : Int32) (x5 : Int64) (x7 : Int32) (x8 : Int32) (x9 : Int32) (x10 : Int64) (x13 : Int32) (x14 : Int32) (x15 : Int32) (r : (Int32 × gi_H)) (hf : f_X6_bestSet_113 k_21 k_40 h x0 x1 x2 x3 x4 x5 x7 x8 x9 x10 x13 x14 x15 = some r) : gi_Ev M_X6_bestSet 113 [some (.ref x0), some (.int x1), some (.int x2), some (.int x3), some (.int x4), some (.long x5), g6, some (.int x7), some (.int x8), some (.int x9), some (.long x10), g11, g12, some (.int x13), some (.int x14), some (.int x15)] [] h (some (.int r.1), r.2) := by
  unfold f_X6_bestSet_113 at hf
  refine gi_EvN 1 (pc' := 114) (lv' := [some (.ref x0), some (.int x1), some (.int x2), some (.int x3), some (.int x4), some (.long x5), g6, some (.int x7), some (.int x8), some (.int x9), some (.long x10), g11, g12, some (.int x13), some (.int x14), some (.int x15)]) (st' := [.int 0]) (h' := h) rfl ?_
  exact e_X6_bestSet_114 _ hk_21 _ hk_40 _ _ _ h _ _ _ _ _ _ _ _ _ _ _ _ _ _ _ hf
def f_X6_bestSet_229 (k_21 : gi_H → Nat → Int32 → Int32 → Int32 → Int32 → Int64 → Int32 → Int32 → Option (Int32 × gi_H)) (h : gi_H) (x0 : Nat) (x1 : Int32) (x2 : Int32) (x3 : Int32) (x4 : Int32) (x5 : Int64) (x7 : Int32) (x8 : Int32) (t0 : Nat) (t1 : Int64) : Option (Int32 × gi_H) :=
  (gi_fp h t0 6 11 (.long t1)).bind fun h1 => k_21 h1 x0 x1 x2 x3 x4 x5 x7 (x8 + 1)
set_option maxRecDepth 20000 in
set_option maxHeartbeats 2000000 in
theorem e_X6_bestSet_229 (k_21 : gi_H → Nat → Int32 → Int32 → Int32 → Int32 → Int64 → Int32 → Int32 → Option (Int32 × gi_H)) (hk_21 : ∀ (g6 : Option Value) (g9 : Option Value) (g10 : Option Value) (g11 : Option Value) (g12 : Option Value) (g13 : Option Value) (g14 : Option Value) (g15 : Option Value) (h : gi_H) (x0 : Nat) (x1 : Int32) (x2 : Int32) (x3 : Int32) (x4 : Int32) (x5 : Int64) (x7 : Int32) (x8 : Int32) (r : (Int32 × gi_H)), k_21 h x0 x1 x2 x3 x4 x5 x7 x8 = some r → gi_Ev M_X6_bestSet 21 [some (.ref x0), some (.int x1), some (.int x2), some (.int x3), some (.int x4), some (.long x5), g6, some (.int x7), some (.int x8), g9, g10, g11, g12, g13, g14, g15] [] h (some (.int r.1), r.2)) (g6 : Option Value) (g9 : Option Value) (g10 : Option Value) (g11 : Option Value) (g12 : Option Value) (g13 : Option Value) (g14 : Option Value) (g15 : Option Value) (h : gi_H) (x0 : Nat) (x1 : Int32) (x2 : Int32) (x3 : Int32) (x4 : Int32) (x5 : Int64) (x7 : Int32) (x8 : Int32) (t0 : Nat) (t1 : Int64) (r : (Int32 × gi_H)) (hf : f_X6_bestSet_229 k_21 h x0 x1 x2 x3 x4 x5 x7 x8 t0 t1 = some r) : gi_Ev M_X6_bestSet 229 [some (.ref x0), some (.int x1), some (.int x2), some (.int x3), some (.int x4), some (.long x5), g6, some (.int x7), some (.int x8), g9, g10, g11, g12, g13, g14, g15] [.long t1, .ref t0] h (some (.int r.1), r.2) := by
  unfold f_X6_bestSet_229 at hf
  obtain ⟨h1, qh1, hf⟩ := gi_bind hf
  refine gi_EvFp rfl rfl qh1 ?_
  refine gi_EvN 2 (pc' := 21) (lv' := [some (.ref x0), some (.int x1), some (.int x2), some (.int x3), some (.int x4), some (.long x5), g6, some (.int x7), some (.int (x8 + 1)), g9, g10, g11, g12, g13, g14, g15]) (st' := []) (h' := h1) rfl ?_
  exact hk_21 _ _ _ _ _ _ _ _ _ _  _  _  _  _  _  _  _ _ hf
def f_X6_bestSet_212 (k_21 : gi_H → Nat → Int32 → Int32 → Int32 → Int32 → Int64 → Int32 → Int32 → Option (Int32 × gi_H)) (h : gi_H) (x0 : Nat) (x1 : Int32) (x2 : Int32) (x3 : Int32) (x4 : Int32) (x5 : Int64) (x8 : Int32) (x10 : Int64) (x13 : Int32) (t0 : Int32) : Option (Int32 × gi_H) :=
  if x13 = 0 then (gi_fJ h x0 6 11).bind fun y2 => f_X6_bestSet_229 k_21 h x0 x1 x2 x3 x4 x5 t0 x8 x0 y2
  else f_X6_bestSet_229 k_21 h x0 x1 x2 x3 x4 x5 t0 x8 x0 x10
set_option maxRecDepth 20000 in
set_option maxHeartbeats 2000000 in
theorem e_X6_bestSet_212 (k_21 : gi_H → Nat → Int32 → Int32 → Int32 → Int32 → Int64 → Int32 → Int32 → Option (Int32 × gi_H)) (hk_21 : ∀ (g6 : Option Value) (g9 : Option Value) (g10 : Option Value) (g11 : Option Value) (g12 : Option Value) (g13 : Option Value) (g14 : Option Value) (g15 : Option Value) (h : gi_H) (x0 : Nat) (x1 : Int32) (x2 : Int32) (x3 : Int32) (x4 : Int32) (x5 : Int64) (x7 : Int32) (x8 : Int32) (r : (Int32 × gi_H)), k_21 h x0 x1 x2 x3 x4 x5 x7 x8 = some r → gi_Ev M_X6_bestSet 21 [some (.ref x0), some (.int x1), some (.int x2), some (.int x3), some (.int x4), some (.long x5), g6, some (.int x7), some (.int x8), g9, g10, g11, g12, g13, g14, g15] [] h (some (.int r.1), r.2)) (g6 : Option Value) (g7 : Option Value) (g9 : Option Value) (g11 : Option Value) (g12 : Option Value) (g14 : Option Value) (g15 : Option Value) (h : gi_H) (x0 : Nat) (x1 : Int32) (x2 : Int32) (x3 : Int32) (x4 : Int32) (x5 : Int64) (x8 : Int32) (x10 : Int64) (x13 : Int32) (t0 : Int32) (r : (Int32 × gi_H)) (hf : f_X6_bestSet_212 k_21 h x0 x1 x2 x3 x4 x5 x8 x10 x13 t0 = some r) : gi_Ev M_X6_bestSet 212 [some (.ref x0), some (.int x1), some (.int x2), some (.int x3), some (.int x4), some (.long x5), g6, g7, some (.int x8), g9, some (.long x10), g11, g12, some (.int x13), g14, g15] [.int t0] h (some (.int r.1), r.2) := by
  unfold f_X6_bestSet_212 at hf
  refine gi_EvN 3 (pc' := 217) (lv' := [some (.ref x0), some (.int x1), some (.int x2), some (.int x3), some (.int x4), some (.long x5), (gi_cl g6), some (.int t0), some (.int x8), g9, some (.long x10), g11, g12, some (.int x13), g14, g15]) (st' := [.int x13, .ref x0]) (h' := h) rfl ?_
  refine gi_Ev_eq rfl (fun c1 => ?_) (fun c1 => ?_)
  · rw [if_pos c1] at hf
    refine gi_EvN 1 (pc' := 226) (lv' := [some (.ref x0), some (.int x1), some (.int x2), some (.int x3), some (.int x4), some (.long x5), (gi_cl g6), some (.int t0), some (.int x8), g9, some (.long x10), g11, g12, some (.int x13), g14, g15]) (st' := [.ref x0, .ref x0]) (h' := h) rfl ?_
    obtain ⟨y2, qy2, hf⟩ := gi_bind hf
    refine gi_EvF rfl (gi_fJ_inv qy2) ?_
    exact e_X6_bestSet_229 _ hk_21 _ _ _ _ _ _ _ _ h _ _ _ _ _ _ _ _ _ _ _ hf
  · rw [if_neg c1] at hf
    refine gi_EvN 2 (pc' := 229) (lv' := [some (.ref x0), some (.int x1), some (.int x2), some (.int x3), some (.int x4), some (.long x5), (gi_cl g6), some (.int t0), some (.int x8), g9, some (.long x10), g11, g12, some (.int x13), g14, g15]) (st' := [.long x10, .ref x0]) (h' := h) rfl ?_
    exact e_X6_bestSet_229 _ hk_21 _ _ _ _ _ _ _ _ h _ _ _ _ _ _ _ _ _ _ _ hf
def f_X6_bestSet_198 (k_21 : gi_H → Nat → Int32 → Int32 → Int32 → Int32 → Int64 → Int32 → Int32 → Option (Int32 × gi_H)) (h : gi_H) (x0 : Nat) (x1 : Int32) (x2 : Int32) (x3 : Int32) (x4 : Int32) (x5 : Int64) (x7 : Int32) (x8 : Int32) (x10 : Int64) (t0 : Int32) : Option (Int32 × gi_H) :=
  if t0 = 0 then f_X6_bestSet_212 k_21 h x0 x1 x2 x3 x4 x5 x8 x10 t0 x7
  else f_X6_bestSet_212 k_21 h x0 x1 x2 x3 x4 x5 x8 x10 t0 x8
set_option maxRecDepth 20000 in
set_option maxHeartbeats 2000000 in
theorem e_X6_bestSet_198 (k_21 : gi_H → Nat → Int32 → Int32 → Int32 → Int32 → Int64 → Int32 → Int32 → Option (Int32 × gi_H)) (hk_21 : ∀ (g6 : Option Value) (g9 : Option Value) (g10 : Option Value) (g11 : Option Value) (g12 : Option Value) (g13 : Option Value) (g14 : Option Value) (g15 : Option Value) (h : gi_H) (x0 : Nat) (x1 : Int32) (x2 : Int32) (x3 : Int32) (x4 : Int32) (x5 : Int64) (x7 : Int32) (x8 : Int32) (r : (Int32 × gi_H)), k_21 h x0 x1 x2 x3 x4 x5 x7 x8 = some r → gi_Ev M_X6_bestSet 21 [some (.ref x0), some (.int x1), some (.int x2), some (.int x3), some (.int x4), some (.long x5), g6, some (.int x7), some (.int x8), g9, g10, g11, g12, g13, g14, g15] [] h (some (.int r.1), r.2)) (g6 : Option Value) (g9 : Option Value) (g11 : Option Value) (g12 : Option Value) (g13 : Option Value) (g14 : Option Value) (g15 : Option Value) (h : gi_H) (x0 : Nat) (x1 : Int32) (x2 : Int32) (x3 : Int32) (x4 : Int32) (x5 : Int64) (x7 : Int32) (x8 : Int32) (x10 : Int64) (t0 : Int32) (r : (Int32 × gi_H)) (hf : f_X6_bestSet_198 k_21 h x0 x1 x2 x3 x4 x5 x7 x8 x10 t0 = some r) : gi_Ev M_X6_bestSet 198 [some (.ref x0), some (.int x1), some (.int x2), some (.int x3), some (.int x4), some (.long x5), g6, some (.int x7), some (.int x8), g9, some (.long x10), g11, g12, g13, g14, g15] [.int t0] h (some (.int r.1), r.2) := by
  unfold f_X6_bestSet_198 at hf
  refine gi_EvN 2 (pc' := 202) (lv' := [some (.ref x0), some (.int x1), some (.int x2), some (.int x3), some (.int x4), some (.long x5), g6, some (.int x7), some (.int x8), g9, some (.long x10), g11, (gi_cl g12), some (.int t0), g14, g15]) (st' := [.int t0]) (h' := h) rfl ?_
  refine gi_Ev_eq rfl (fun c1 => ?_) (fun c1 => ?_)
  · rw [if_pos c1] at hf
    refine gi_EvN 1 (pc' := 212) (lv' := [some (.ref x0), some (.int x1), some (.int x2), some (.int x3), some (.int x4), some (.long x5), g6, some (.int x7), some (.int x8), g9, some (.long x10), g11, (gi_cl g12), some (.int t0), g14, g15]) (st' := [.int x7]) (h' := h) rfl ?_
    exact e_X6_bestSet_212 _ hk_21 _ _ _ _ _ _ _ h _ _ _ _ _ _ _ _ _ _ _ hf
  · rw [if_neg c1] at hf
    refine gi_EvN 2 (pc' := 212) (lv' := [some (.ref x0), some (.int x1), some (.int x2), some (.int x3), some (.int x4), some (.long x5), g6, some (.int x7), some (.int x8), g9, some (.long x10), g11, (gi_cl g12), some (.int t0), g14, g15]) (st' := [.int x8]) (h' := h) rfl ?_
    exact e_X6_bestSet_212 _ hk_21 _ _ _ _ _ _ _ h _ _ _ _ _ _ _ _ _ _ _ hf
def f_X6_bestSet_197 (k_21 : gi_H → Nat → Int32 → Int32 → Int32 → Int32 → Int64 → Int32 → Int32 → Option (Int32 × gi_H)) (h : gi_H) (x0 : Nat) (x1 : Int32) (x2 : Int32) (x3 : Int32) (x4 : Int32) (x5 : Int64) (x7 : Int32) (x8 : Int32) (x10 : Int64) : Option (Int32 × gi_H) :=
  f_X6_bestSet_198 k_21 h x0 x1 x2 x3 x4 x5 x7 x8 x10 0
set_option maxRecDepth 20000 in
set_option maxHeartbeats 2000000 in
theorem e_X6_bestSet_197 (k_21 : gi_H → Nat → Int32 → Int32 → Int32 → Int32 → Int64 → Int32 → Int32 → Option (Int32 × gi_H)) (hk_21 : ∀ (g6 : Option Value) (g9 : Option Value) (g10 : Option Value) (g11 : Option Value) (g12 : Option Value) (g13 : Option Value) (g14 : Option Value) (g15 : Option Value) (h : gi_H) (x0 : Nat) (x1 : Int32) (x2 : Int32) (x3 : Int32) (x4 : Int32) (x5 : Int64) (x7 : Int32) (x8 : Int32) (r : (Int32 × gi_H)), k_21 h x0 x1 x2 x3 x4 x5 x7 x8 = some r → gi_Ev M_X6_bestSet 21 [some (.ref x0), some (.int x1), some (.int x2), some (.int x3), some (.int x4), some (.long x5), g6, some (.int x7), some (.int x8), g9, g10, g11, g12, g13, g14, g15] [] h (some (.int r.1), r.2)) (g6 : Option Value) (g9 : Option Value) (g11 : Option Value) (g12 : Option Value) (g13 : Option Value) (g14 : Option Value) (g15 : Option Value) (h : gi_H) (x0 : Nat) (x1 : Int32) (x2 : Int32) (x3 : Int32) (x4 : Int32) (x5 : Int64) (x7 : Int32) (x8 : Int32) (x10 : Int64) (r : (Int32 × gi_H)) (hf : f_X6_bestSet_197 k_21 h x0 x1 x2 x3 x4 x5 x7 x8 x10 = some r) : gi_Ev M_X6_bestSet 197 [some (.ref x0), some (.int x1), some (.int x2), some (.int x3), some (.int x4), some (.long x5), g6, some (.int x7), some (.int x8), g9, some (.long x10), g11, g12, g13, g14, g15] [] h (some (.int r.1), r.2) := by
  unfold f_X6_bestSet_197 at hf
  refine gi_EvN 1 (pc' := 198) (lv' := [some (.ref x0), some (.int x1), some (.int x2), some (.int x3), some (.int x4), some (.long x5), g6, some (.int x7), some (.int x8), g9, some (.long x10), g11, g12, g13, g14, g15]) (st' := [.int 0]) (h' := h) rfl ?_
  exact e_X6_bestSet_198 _ hk_21 _ _ _ _ _ _ _ h _ _ _ _ _ _ _ _ _ _ _ hf
def f_X6_bestSet_164 (k_21 : gi_H → Nat → Int32 → Int32 → Int32 → Int32 → Int64 → Int32 → Int32 → Option (Int32 × gi_H)) (h : gi_H) (x0 : Nat) (x1 : Int32) (x2 : Int32) (x3 : Int32) (x4 : Int32) (x5 : Int64) (x7 : Int32) (x8 : Int32) (x9 : Int32) (x10 : Int64) (x12 : Int32) : Option (Int32 × gi_H) :=
  if x12 = 0 then f_X6_bestSet_197 k_21 h x0 x1 x2 x3 x4 x5 x7 x8 x10
  else (gi_fR h x0 6 0).bind fun y2 => (gi_ai h y2 0 (6 + x1)).bind fun y3 => if y3 < x9 then f_X6_bestSet_197 k_21 h x0 x1 x2 x3 x4 x5 x7 x8 x10
  else (gi_fJ h x0 6 11).bind fun y5 => if (lg_cmp x10 y5) ≤ 0 then f_X6_bestSet_197 k_21 h x0 x1 x2 x3 x4 x5 x7 x8 x10
  else f_X6_bestSet_198 k_21 h x0 x1 x2 x3 x4 x5 x7 x8 x10 1
set_option maxRecDepth 20000 in
set_option maxHeartbeats 2000000 in
theorem e_X6_bestSet_164 (k_21 : gi_H → Nat → Int32 → Int32 → Int32 → Int32 → Int64 → Int32 → Int32 → Option (Int32 × gi_H)) (hk_21 : ∀ (g6 : Option Value) (g9 : Option Value) (g10 : Option Value) (g11 : Option Value) (g12 : Option Value) (g13 : Option Value) (g14 : Option Value) (g15 : Option Value) (h : gi_H) (x0 : Nat) (x1 : Int32) (x2 : Int32) (x3 : Int32) (x4 : Int32) (x5 : Int64) (x7 : Int32) (x8 : Int32) (r : (Int32 × gi_H)), k_21 h x0 x1 x2 x3 x4 x5 x7 x8 = some r → gi_Ev M_X6_bestSet 21 [some (.ref x0), some (.int x1), some (.int x2), some (.int x3), some (.int x4), some (.long x5), g6, some (.int x7), some (.int x8), g9, g10, g11, g12, g13, g14, g15] [] h (some (.int r.1), r.2)) (g6 : Option Value) (g11 : Option Value) (g13 : Option Value) (g14 : Option Value) (g15 : Option Value) (h : gi_H) (x0 : Nat) (x1 : Int32) (x2 : Int32) (x3 : Int32) (x4 : Int32) (x5 : Int64) (x7 : Int32) (x8 : Int32) (x9 : Int32) (x10 : Int64) (x12 : Int32) (r : (Int32 × gi_H)) (hf : f_X6_bestSet_164 k_21 h x0 x1 x2 x3 x4 x5 x7 x8 x9 x10 x12 = some r) : gi_Ev M_X6_bestSet 164 [some (.ref x0), some (.int x1), some (.int x2), some (.int x3), some (.int x4), some (.long x5), g6, some (.int x7), some (.int x8), some (.int x9), some (.long x10), g11, some (.int x12), g13, g14, g15] [] h (some (.int r.1), r.2) := by
  unfold f_X6_bestSet_164 at hf
  refine gi_EvN 1 (pc' := 166) (lv' := [some (.ref x0), some (.int x1), some (.int x2), some (.int x3), some (.int x4), some (.long x5), g6, some (.int x7), some (.int x8), some (.int x9), some (.long x10), g11, some (.int x12), g13, g14, g15]) (st' := [.int x12]) (h' := h) rfl ?_
  refine gi_Ev_eq rfl (fun c1 => ?_) (fun c1 => ?_)
  · rw [if_pos c1] at hf
    exact e_X6_bestSet_197 _ hk_21 _ _ _ _ _ _ _ h _ _ _ _ _ _ _ _ _ _ hf
  · rw [if_neg c1] at hf
    refine gi_EvN 2 (pc' := 172) (lv' := [some (.ref x0), some (.int x1), some (.int x2), some (.int x3), some (.int x4), some (.long x5), g6, some (.int x7), some (.int x8), some (.int x9), some (.long x10), g11, some (.int x12), g13, g14, g15]) (st' := [.ref x0, .int x9]) (h' := h) rfl ?_
    obtain ⟨y2, qy2, hf⟩ := gi_bind hf
    refine gi_EvF rfl (gi_fR_inv qy2) ?_
    refine gi_EvN 3 (pc' := 179) (lv' := [some (.ref x0), some (.int x1), some (.int x2), some (.int x3), some (.int x4), some (.long x5), g6, some (.int x7), some (.int x8), some (.int x9), some (.long x10), g11, some (.int x12), g13, g14, g15]) (st' := [.int (6 + x1), .ref y2, .int x9]) (h' := h) rfl ?_
    obtain ⟨y3, qy3, hf⟩ := gi_bind hf
    refine gi_EvAi rfl qy3 ?_
    refine gi_Ev_igt rfl (fun c4 => ?_) (fun c4 => ?_)
    · rw [if_pos c4] at hf
      exact e_X6_bestSet_197 _ hk_21 _ _ _ _ _ _ _ h _ _ _ _ _ _ _ _ _ _ hf
    · rw [if_neg c4] at hf
      refine gi_EvN 2 (pc' := 186) (lv' := [some (.ref x0), some (.int x1), some (.int x2), some (.int x3), some (.int x4), some (.long x5), g6, some (.int x7), some (.int x8), some (.int x9), some (.long x10), g11, some (.int x12), g13, g14, g15]) (st' := [.ref x0, .long x10]) (h' := h) rfl ?_
      obtain ⟨y5, qy5, hf⟩ := gi_bind hf
      refine gi_EvF rfl (gi_fJ_inv qy5) ?_
      refine gi_EvN 1 (pc' := 190) (lv' := [some (.ref x0), some (.int x1), some (.int x2), some (.int x3), some (.int x4), some (.long x5), g6, some (.int x7), some (.int x8), some (.int x9), some (.long x10), g11, some (.int x12), g13, g14, g15]) (st' := [.int (lg_cmp x10 y5)]) (h' := h) rfl ?_
      refine gi_Ev_le rfl (fun c6 => ?_) (fun c6 => ?_)
      · rw [if_pos c6] at hf
        exact e_X6_bestSet_197 _ hk_21 _ _ _ _ _ _ _ h _ _ _ _ _ _ _ _ _ _ hf
      · rw [if_neg c6] at hf
        refine gi_EvN 2 (pc' := 198) (lv' := [some (.ref x0), some (.int x1), some (.int x2), some (.int x3), some (.int x4), some (.long x5), g6, some (.int x7), some (.int x8), some (.int x9), some (.long x10), g11, some (.int x12), g13, g14, g15]) (st' := [.int 1]) (h' := h) rfl ?_
        exact e_X6_bestSet_198 _ hk_21 _ _ _ _ _ _ _ h _ _ _ _ _ _ _ _ _ _ _ hf
def f_X6_bestSet_40 (k_21 : gi_H → Nat → Int32 → Int32 → Int32 → Int32 → Int64 → Int32 → Int32 → Option (Int32 × gi_H)) : Nat → gi_H → Nat → Int32 → Int32 → Int32 → Int32 → Int64 → Int32 → Int32 → Int32 → Int64 → Int32 → Int32 → Option (Int32 × gi_H)
  | 0, _, _, _, _, _, _, _, _, _, _, _, _, _ => none
  | n + 1, h, x0, x1, x2, x3, x4, x5, x7, x8, x9, x10, x12, x13 => if 6 ≤ x13 then f_X6_bestSet_164 k_21 h x0 x1 x2 x3 x4 x5 x7 x8 x9 x10 x12
  else (f_X6_has x8 x13).bind fun y2 => if y2 = 0 then f_X6_bestSet_40 k_21 n h x0 x1 x2 x3 x4 x5 x7 x8 x9 x10 x12 (x13 + 1)
  else (f_X6_digit x2 x13).bind fun y4 => (gi_fR h x0 6 0).bind fun y5 => (gi_ai h y5 0 x13).bind fun y6 => (f_X6_priceOf (10 * y4) y6 x4).bind fun y7 => if x12 = 0 then f_X6_bestSet_113 k_21 (f_X6_bestSet_40 k_21 n) h x0 x1 x2 x3 x4 x5 x7 x8 x9 x10 x13 (10 * y4) y7
  else if (10 * y4) ≤ 0 then f_X6_bestSet_113 k_21 (f_X6_bestSet_40 k_21 n) h x0 x1 x2 x3 x4 x5 x7 x8 x9 x10 x13 (10 * y4) y7
  else (gi_fR h x0 6 0).bind fun y10 => (gi_ai h y10 0 12).bind fun y11 => (f_X6_has y11 x13).bind fun y12 => if y12 = 0 then f_X6_bestSet_114 k_21 (f_X6_bestSet_40 k_21 n) h x0 x1 x2 x3 x4 x5 x7 x8 x9 x10 x13 (10 * y4) y7 1
  else f_X6_bestSet_113 k_21 (f_X6_bestSet_40 k_21 n) h x0 x1 x2 x3 x4 x5 x7 x8 x9 x10 x13 (10 * y4) y7
set_option maxRecDepth 20000 in
set_option maxHeartbeats 2000000 in
theorem e_X6_bestSet_40 (k_21 : gi_H → Nat → Int32 → Int32 → Int32 → Int32 → Int64 → Int32 → Int32 → Option (Int32 × gi_H)) (hk_21 : ∀ (g6 : Option Value) (g9 : Option Value) (g10 : Option Value) (g11 : Option Value) (g12 : Option Value) (g13 : Option Value) (g14 : Option Value) (g15 : Option Value) (h : gi_H) (x0 : Nat) (x1 : Int32) (x2 : Int32) (x3 : Int32) (x4 : Int32) (x5 : Int64) (x7 : Int32) (x8 : Int32) (r : (Int32 × gi_H)), k_21 h x0 x1 x2 x3 x4 x5 x7 x8 = some r → gi_Ev M_X6_bestSet 21 [some (.ref x0), some (.int x1), some (.int x2), some (.int x3), some (.int x4), some (.long x5), g6, some (.int x7), some (.int x8), g9, g10, g11, g12, g13, g14, g15] [] h (some (.int r.1), r.2)) : ∀ (n : Nat) (g6 : Option Value) (g11 : Option Value) (g14 : Option Value) (g15 : Option Value) (h : gi_H) (x0 : Nat) (x1 : Int32) (x2 : Int32) (x3 : Int32) (x4 : Int32) (x5 : Int64) (x7 : Int32) (x8 : Int32) (x9 : Int32) (x10 : Int64) (x12 : Int32) (x13 : Int32) (r : (Int32 × gi_H)), f_X6_bestSet_40 k_21 n h x0 x1 x2 x3 x4 x5 x7 x8 x9 x10 x12 x13 = some r → gi_Ev M_X6_bestSet 40 [some (.ref x0), some (.int x1), some (.int x2), some (.int x3), some (.int x4), some (.long x5), g6, some (.int x7), some (.int x8), some (.int x9), some (.long x10), g11, some (.int x12), some (.int x13), g14, g15] [] h (some (.int r.1), r.2) := by
  intro n
  induction n with
  | zero =>
    intro g6 g11 g14 g15 h x0 x1 x2 x3 x4 x5 x7 x8 x9 x10 x12 x13 r hf
    unfold f_X6_bestSet_40 at hf
    cases hf
  | succ n ih =>
    intro g6 g11 g14 g15 h x0 x1 x2 x3 x4 x5 x7 x8 x9 x10 x12 x13 r hf
    unfold f_X6_bestSet_40 at hf
    refine gi_EvN 2 (pc' := 44) (lv' := [some (.ref x0), some (.int x1), some (.int x2), some (.int x3), some (.int x4), some (.long x5), g6, some (.int x7), some (.int x8), some (.int x9), some (.long x10), g11, some (.int x12), some (.int x13), g14, g15]) (st' := [.int 6, .int x13]) (h' := h) rfl ?_
    refine gi_Ev_ige rfl (fun c1 => ?_) (fun c1 => ?_)
    · rw [if_pos c1] at hf
      exact e_X6_bestSet_164 _ hk_21 _ _ _ _ _ h _ _ _ _ _ _ _ _ _ _ _ _ hf
    · rw [if_neg c1] at hf
      refine gi_EvN 2 (pc' := 51) (lv' := [some (.ref x0), some (.int x1), some (.int x2), some (.int x3), some (.int x4), some (.long x5), g6, some (.int x7), some (.int x8), some (.int x9), some (.long x10), g11, some (.int x12), some (.int x13), g14, g15]) (st' := [.int x13, .int x8]) (h' := h) rfl ?_
      obtain ⟨y2, qy2, hf⟩ := gi_bind hf
      refine gi_EvCS rfl rfl rfl rfl rfl (e_X6_has h _ _ _ qy2) ?_
      show gi_Ev M_X6_bestSet 54 [some (.ref x0), some (.int x1), some (.int x2), some (.int x3), some (.int x4), some (.long x5), g6, some (.int x7), some (.int x8), some (.int x9), some (.long x10), g11, some (.int x12), some (.int x13), g14, g15] [.int y2] h _
      refine gi_Ev_eq rfl (fun c3 => ?_) (fun c3 => ?_)
      · rw [if_pos c3] at hf
        refine gi_EvN 2 (pc' := 40) (lv' := [some (.ref x0), some (.int x1), some (.int x2), some (.int x3), some (.int x4), some (.long x5), g6, some (.int x7), some (.int x8), some (.int x9), some (.long x10), g11, some (.int x12), some (.int (x13 + 1)), g14, g15]) (st' := []) (h' := h) rfl ?_
        exact ih _ _ _ _ _ _  _  _  _  _  _  _  _  _  _  _  _ _ hf
      · rw [if_neg c3] at hf
        refine gi_EvN 3 (pc' := 62) (lv' := [some (.ref x0), some (.int x1), some (.int x2), some (.int x3), some (.int x4), some (.long x5), g6, some (.int x7), some (.int x8), some (.int x9), some (.long x10), g11, some (.int x12), some (.int x13), g14, g15]) (st' := [.int x13, .int x2, .int 10]) (h' := h) rfl ?_
        obtain ⟨y4, qy4, hf⟩ := gi_bind hf
        refine gi_EvCS rfl rfl rfl rfl rfl (e_X6_digit h _ _ _ qy4) ?_
        show gi_Ev M_X6_bestSet 65 [some (.ref x0), some (.int x1), some (.int x2), some (.int x3), some (.int x4), some (.long x5), g6, some (.int x7), some (.int x8), some (.int x9), some (.long x10), g11, some (.int x12), some (.int x13), g14, g15] [.int y4, .int 10] h _
        refine gi_EvN 4 (pc' := 71) (lv' := [some (.ref x0), some (.int x1), some (.int x2), some (.int x3), some (.int x4), some (.long x5), g6, some (.int x7), some (.int x8), some (.int x9), some (.long x10), g11, some (.int x12), some (.int x13), some (.int (10 * y4)), g15]) (st' := [.ref x0, .int (10 * y4)]) (h' := h) rfl ?_
        obtain ⟨y5, qy5, hf⟩ := gi_bind hf
        refine gi_EvF rfl (gi_fR_inv qy5) ?_
        refine gi_EvN 1 (pc' := 76) (lv' := [some (.ref x0), some (.int x1), some (.int x2), some (.int x3), some (.int x4), some (.long x5), g6, some (.int x7), some (.int x8), some (.int x9), some (.long x10), g11, some (.int x12), some (.int x13), some (.int (10 * y4)), g15]) (st' := [.int x13, .ref y5, .int (10 * y4)]) (h' := h) rfl ?_
        obtain ⟨y6, qy6, hf⟩ := gi_bind hf
        refine gi_EvAi rfl qy6 ?_
        refine gi_EvN 1 (pc' := 79) (lv' := [some (.ref x0), some (.int x1), some (.int x2), some (.int x3), some (.int x4), some (.long x5), g6, some (.int x7), some (.int x8), some (.int x9), some (.long x10), g11, some (.int x12), some (.int x13), some (.int (10 * y4)), g15]) (st' := [.int x4, .int y6, .int (10 * y4)]) (h' := h) rfl ?_
        obtain ⟨y7, qy7, hf⟩ := gi_bind hf
        refine gi_EvCS rfl rfl rfl rfl rfl (e_X6_priceOf h _ _ _ _ qy7) ?_
        show gi_Ev M_X6_bestSet 82 [some (.ref x0), some (.int x1), some (.int x2), some (.int x3), some (.int x4), some (.long x5), g6, some (.int x7), some (.int x8), some (.int x9), some (.long x10), g11, some (.int x12), some (.int x13), some (.int (10 * y4)), g15] [.int y7] h _
        refine gi_EvN 2 (pc' := 86) (lv' := [some (.ref x0), some (.int x1), some (.int x2), some (.int x3), some (.int x4), some (.long x5), g6, some (.int x7), some (.int x8), some (.int x9), some (.long x10), g11, some (.int x12), some (.int x13), some (.int (10 * y4)), some (.int y7)]) (st' := [.int x12]) (h' := h) rfl ?_
        refine gi_Ev_eq rfl (fun c8 => ?_) (fun c8 => ?_)
        · rw [if_pos c8] at hf
          exact e_X6_bestSet_113 _ hk_21 _ ih _ _ _ h _ _ _ _ _ _ _ _ _ _ _ _ _ _ hf
        · rw [if_neg c8] at hf
          refine gi_EvN 1 (pc' := 91) (lv' := [some (.ref x0), some (.int x1), some (.int x2), some (.int x3), some (.int x4), some (.long x5), g6, some (.int x7), some (.int x8), some (.int x9), some (.long x10), g11, some (.int x12), some (.int x13), some (.int (10 * y4)), some (.int y7)]) (st' := [.int (10 * y4)]) (h' := h) rfl ?_
          refine gi_Ev_le rfl (fun c9 => ?_) (fun c9 => ?_)
          · rw [if_pos c9] at hf
            exact e_X6_bestSet_113 _ hk_21 _ ih _ _ _ h _ _ _ _ _ _ _ _ _ _ _ _ _ _ hf
          · rw [if_neg c9] at hf
            refine gi_EvN 1 (pc' := 95) (lv' := [some (.ref x0), some (.int x1), some (.int x2), some (.int x3), some (.int x4), some (.long x5), g6, some (.int x7), some (.int x8), some (.int x9), some (.long x10), g11, some (.int x12), some (.int x13), some (.int (10 * y4)), some (.int y7)]) (st' := [.ref x0]) (h' := h) rfl ?_
            obtain ⟨y10, qy10, hf⟩ := gi_bind hf
            refine gi_EvF rfl (gi_fR_inv qy10) ?_
            refine gi_EvN 1 (pc' := 100) (lv' := [some (.ref x0), some (.int x1), some (.int x2), some (.int x3), some (.int x4), some (.long x5), g6, some (.int x7), some (.int x8), some (.int x9), some (.long x10), g11, some (.int x12), some (.int x13), some (.int (10 * y4)), some (.int y7)]) (st' := [.int 12, .ref y10]) (h' := h) rfl ?_
            obtain ⟨y11, qy11, hf⟩ := gi_bind hf
            refine gi_EvAi rfl qy11 ?_
            refine gi_EvN 1 (pc' := 103) (lv' := [some (.ref x0), some (.int x1), some (.int x2), some (.int x3), some (.int x4), some (.long x5), g6, some (.int x7), some (.int x8), some (.int x9), some (.long x10), g11, some (.int x12), some (.int x13), some (.int (10 * y4)), some (.int y7)]) (st' := [.int x13, .int y11]) (h' := h) rfl ?_
            obtain ⟨y12, qy12, hf⟩ := gi_bind hf
            refine gi_EvCS rfl rfl rfl rfl rfl (e_X6_has h _ _ _ qy12) ?_
            show gi_Ev M_X6_bestSet 106 [some (.ref x0), some (.int x1), some (.int x2), some (.int x3), some (.int x4), some (.long x5), g6, some (.int x7), some (.int x8), some (.int x9), some (.long x10), g11, some (.int x12), some (.int x13), some (.int (10 * y4)), some (.int y7)] [.int y12] h _
            refine gi_Ev_ne rfl (fun c13 => ?_) (fun c13 => ?_)
            · rw [if_pos c13] at hf
              refine gi_EvN 2 (pc' := 114) (lv' := [some (.ref x0), some (.int x1), some (.int x2), some (.int x3), some (.int x4), some (.long x5), g6, some (.int x7), some (.int x8), some (.int x9), some (.long x10), g11, some (.int x12), some (.int x13), some (.int (10 * y4)), some (.int y7)]) (st' := [.int 1]) (h' := h) rfl ?_
              exact e_X6_bestSet_114 _ hk_21 _ ih _ _ _ h _ _ _ _ _ _ _ _ _ _ _ _ _ _ _ hf
            · rw [if_neg c13] at hf
              exact e_X6_bestSet_113 _ hk_21 _ ih _ _ _ h _ _ _ _ _ _ _ _ _ _ _ _ _ _ hf
def f_X6_bestSet_21 : Nat → gi_H → Nat → Int32 → Int32 → Int32 → Int32 → Int64 → Int32 → Int32 → Option (Int32 × gi_H)
  | 0, _, _, _, _, _, _, _, _, _ => none
  | n + 1, h, x0, x1, x2, x3, x4, x5, x7, x8 => if 64 ≤ x8 then some (x7, h)
  else f_X6_bestSet_40 (f_X6_bestSet_21 n) gi_F h x0 x1 x2 x3 x4 x5 x7 x8 0 0 1 0
set_option maxRecDepth 20000 in
set_option maxHeartbeats 2000000 in
theorem e_X6_bestSet_21 : ∀ (n : Nat) (g6 : Option Value) (g9 : Option Value) (g10 : Option Value) (g11 : Option Value) (g12 : Option Value) (g13 : Option Value) (g14 : Option Value) (g15 : Option Value) (h : gi_H) (x0 : Nat) (x1 : Int32) (x2 : Int32) (x3 : Int32) (x4 : Int32) (x5 : Int64) (x7 : Int32) (x8 : Int32) (r : (Int32 × gi_H)), f_X6_bestSet_21 n h x0 x1 x2 x3 x4 x5 x7 x8 = some r → gi_Ev M_X6_bestSet 21 [some (.ref x0), some (.int x1), some (.int x2), some (.int x3), some (.int x4), some (.long x5), g6, some (.int x7), some (.int x8), g9, g10, g11, g12, g13, g14, g15] [] h (some (.int r.1), r.2) := by
  intro n
  induction n with
  | zero =>
    intro g6 g9 g10 g11 g12 g13 g14 g15 h x0 x1 x2 x3 x4 x5 x7 x8 r hf
    unfold f_X6_bestSet_21 at hf
    cases hf
  | succ n ih =>
    intro g6 g9 g10 g11 g12 g13 g14 g15 h x0 x1 x2 x3 x4 x5 x7 x8 r hf
    unfold f_X6_bestSet_21 at hf
    refine gi_EvN 2 (pc' := 25) (lv' := [some (.ref x0), some (.int x1), some (.int x2), some (.int x3), some (.int x4), some (.long x5), g6, some (.int x7), some (.int x8), g9, g10, g11, g12, g13, g14, g15]) (st' := [.int 64, .int x8]) (h' := h) rfl ?_
    refine gi_Ev_ige rfl (fun c1 => ?_) (fun c1 => ?_)
    · rw [if_pos c1] at hf
      refine gi_EvN 1 (pc' := 240) (lv' := [some (.ref x0), some (.int x1), some (.int x2), some (.int x3), some (.int x4), some (.long x5), g6, some (.int x7), some (.int x8), g9, g10, g11, g12, g13, g14, g15]) (st' := [.int x7]) (h' := h) rfl ?_
      cases hf
      exact gi_EvR rfl rfl
    · rw [if_neg c1] at hf
      refine gi_EvN 8 (pc' := 40) (lv' := [some (.ref x0), some (.int x1), some (.int x2), some (.int x3), some (.int x4), some (.long x5), g6, some (.int x7), some (.int x8), some (.int 0), some (.long 0), none, some (.int 1), some (.int 0), g14, g15]) (st' := []) (h' := h) rfl ?_
      exact e_X6_bestSet_40 _ ih gi_F _ _ _ _ h _ _ _ _ _ _ _ _ _ _ _ _ _ hf
def f_X6_bestSet (h : gi_H) (x0 : Nat) (x1 : Int32) (x2 : Int32) (x3 : Int32) (x4 : Int32) : Option (Int32 × gi_H) :=
  (f_X6_power 10 x4).bind fun y1 => (gi_fp h x0 6 11 (.long 0)).bind fun h2 => f_X6_bestSet_21 gi_F h2 x0 x1 x2 x3 x4 y1 0 1
set_option maxRecDepth 20000 in
set_option maxHeartbeats 2000000 in
theorem e_X6_bestSet (h : gi_H) (x0 : Nat) (x1 : Int32) (x2 : Int32) (x3 : Int32) (x4 : Int32) (r : (Int32 × gi_H)) (hf : f_X6_bestSet h x0 x1 x2 x3 x4 = some r) : gi_Ev M_X6_bestSet 0 [some (.ref x0), some (.int x1), some (.int x2), some (.int x3), some (.int x4), none, none, none, none, none, none, none, none, none, none, none] [] h (some (.int r.1), r.2) := by
  unfold f_X6_bestSet at hf
  refine gi_EvN 2 (pc' := 5) (lv' := [some (.ref x0), some (.int x1), some (.int x2), some (.int x3), some (.int x4), none, none, none, none, none, none, none, none, none, none, none]) (st' := [.int x4, .long 10]) (h' := h) rfl ?_
  obtain ⟨y1, qy1, hf⟩ := gi_bind hf
  refine gi_EvCS rfl rfl rfl rfl rfl (e_X6_power h _ _ _ qy1) ?_
  show gi_Ev M_X6_bestSet 8 [some (.ref x0), some (.int x1), some (.int x2), some (.int x3), some (.int x4), none, none, none, none, none, none, none, none, none, none, none] [.long y1] h _
  refine gi_EvN 5 (pc' := 15) (lv' := [some (.ref x0), some (.int x1), some (.int x2), some (.int x3), some (.int x4), some (.long y1), none, some (.int 0), none, none, none, none, none, none, none, none]) (st' := [.long 0, .ref x0]) (h' := h) rfl ?_
  obtain ⟨h2, qh2, hf⟩ := gi_bind hf
  refine gi_EvFp rfl rfl qh2 ?_
  refine gi_EvN 2 (pc' := 21) (lv' := [some (.ref x0), some (.int x1), some (.int x2), some (.int x3), some (.int x4), some (.long y1), none, some (.int 0), some (.int 1), none, none, none, none, none, none, none]) (st' := []) (h' := h2) rfl ?_
  exact e_X6_bestSet_21 gi_F _ _ _ _ _ _ _ _ h2 _ _ _ _ _ _ _ _ _ hf
/-! X6_best AdmiralGuineaModel.best(IIIII)J -/
def f_X6_best (h : gi_H) (x0 : Nat) (x1 : Int32) (x2 : Int32) (x3 : Int32) (x4 : Int32) (x5 : Int32) : Option (Int64 × gi_H) :=
  (f_X6_isBuyer x1).bind fun y1 => if y1 = 0 then some ((-1000000000000000001), h)
  else (f_X6_areOffers x2 x3 x4).bind fun y3 => if y3 = 0 then some ((-1000000000000000002), h)
  else (f_X6_in x5 0 1).bind fun y5 => if y5 = 0 then some ((-1000000000000000002), h)
  else if gi_is h x0 6 = true then (f_X6_bestSet h x0 x1 x2 x3 x4).bind fun y7 => (gi_fJ y7.2 x0 6 11).bind fun y9 => (f_X6_power 10 x4).bind fun y10 => (f_X6_part y9 y10 x5).bind fun y11 => some (y11, y7.2) else none
set_option maxRecDepth 20000 in
set_option maxHeartbeats 2000000 in
theorem e_X6_best (h : gi_H) (x0 : Nat) (x1 : Int32) (x2 : Int32) (x3 : Int32) (x4 : Int32) (x5 : Int32) (r : (Int64 × gi_H)) (hf : f_X6_best h x0 x1 x2 x3 x4 x5 = some r) : gi_Ev M_X6_best 0 [some (.ref x0), some (.int x1), some (.int x2), some (.int x3), some (.int x4), some (.int x5)] [] h (some (.long r.1), r.2) := by
  unfold f_X6_best at hf
  refine gi_EvN 1 (pc' := 1) (lv' := [some (.ref x0), some (.int x1), some (.int x2), some (.int x3), some (.int x4), some (.int x5)]) (st' := [.int x1]) (h' := h) rfl ?_
  obtain ⟨y1, qy1, hf⟩ := gi_bind hf
  refine gi_EvCS rfl rfl rfl rfl rfl (e_X6_isBuyer h _ _ qy1) ?_
  show gi_Ev M_X6_best 4 [some (.ref x0), some (.int x1), some (.int x2), some (.int x3), some (.int x4), some (.int x5)] [.int y1] h _
  refine gi_Ev_ne rfl (fun c2 => ?_) (fun c2 => ?_)
  · rw [if_pos c2] at hf
    refine gi_EvN 1 (pc' := 10) (lv' := [some (.ref x0), some (.int x1), some (.int x2), some (.int x3), some (.int x4), some (.int x5)]) (st' := [.long (-1000000000000000001)]) (h' := h) rfl ?_
    cases hf
    exact gi_EvR rfl rfl
  · rw [if_neg c2] at hf
    refine gi_EvN 3 (pc' := 15) (lv' := [some (.ref x0), some (.int x1), some (.int x2), some (.int x3), some (.int x4), some (.int x5)]) (st' := [.int x4, .int x3, .int x2]) (h' := h) rfl ?_
    obtain ⟨y3, qy3, hf⟩ := gi_bind hf
    refine gi_EvCS rfl rfl rfl rfl rfl (e_X6_areOffers h _ _ _ _ qy3) ?_
    show gi_Ev M_X6_best 18 [some (.ref x0), some (.int x1), some (.int x2), some (.int x3), some (.int x4), some (.int x5)] [.int y3] h _
    refine gi_Ev_eq rfl (fun c4 => ?_) (fun c4 => ?_)
    · rw [if_pos c4] at hf
      refine gi_EvN 1 (pc' := 34) (lv' := [some (.ref x0), some (.int x1), some (.int x2), some (.int x3), some (.int x4), some (.int x5)]) (st' := [.long (-1000000000000000002)]) (h' := h) rfl ?_
      cases hf
      exact gi_EvR rfl rfl
    · rw [if_neg c4] at hf
      refine gi_EvN 3 (pc' := 25) (lv' := [some (.ref x0), some (.int x1), some (.int x2), some (.int x3), some (.int x4), some (.int x5)]) (st' := [.int 1, .int 0, .int x5]) (h' := h) rfl ?_
      obtain ⟨y5, qy5, hf⟩ := gi_bind hf
      refine gi_EvCS rfl rfl rfl rfl rfl (e_X6_in h _ _ _ _ qy5) ?_
      show gi_Ev M_X6_best 28 [some (.ref x0), some (.int x1), some (.int x2), some (.int x3), some (.int x4), some (.int x5)] [.int y5] h _
      refine gi_Ev_ne rfl (fun c6 => ?_) (fun c6 => ?_)
      · rw [if_pos c6] at hf
        refine gi_EvN 1 (pc' := 34) (lv' := [some (.ref x0), some (.int x1), some (.int x2), some (.int x3), some (.int x4), some (.int x5)]) (st' := [.long (-1000000000000000002)]) (h' := h) rfl ?_
        cases hf
        exact gi_EvR rfl rfl
      · rw [if_neg c6] at hf
        refine gi_EvN 5 (pc' := 41) (lv' := [some (.ref x0), some (.int x1), some (.int x2), some (.int x3), some (.int x4), some (.int x5)]) (st' := [.int x4, .int x3, .int x2, .int x1, .ref x0]) (h' := h) rfl ?_
        by_cases c8 : gi_is h x0 6 = true
        rotate_left
        · rw [if_neg c8] at hf; cases hf
        rw [if_pos c8] at hf
        obtain ⟨y7, qy7, hf⟩ := gi_bind hf
        refine gi_EvCV rfl rfl c8 rfl rfl (e_X6_bestSet h _ _ _ _ _ _ qy7) ?_
        show gi_Ev M_X6_best 44 [some (.ref x0), some (.int x1), some (.int x2), some (.int x3), some (.int x4), some (.int x5)] [.int y7.1] y7.2 _
        refine gi_EvN 2 (pc' := 46) (lv' := [some (.ref x0), some (.int x1), some (.int x2), some (.int x3), some (.int x4), some (.int x5)]) (st' := [.ref x0]) (h' := y7.2) rfl ?_
        obtain ⟨y9, qy9, hf⟩ := gi_bind hf
        refine gi_EvF rfl (gi_fJ_inv qy9) ?_
        refine gi_EvN 2 (pc' := 54) (lv' := [some (.ref x0), some (.int x1), some (.int x2), some (.int x3), some (.int x4), some (.int x5)]) (st' := [.int x4, .long 10, .long y9]) (h' := y7.2) rfl ?_
        obtain ⟨y10, qy10, hf⟩ := gi_bind hf
        refine gi_EvCS rfl rfl rfl rfl rfl (e_X6_power y7.2 _ _ _ qy10) ?_
        show gi_Ev M_X6_best 57 [some (.ref x0), some (.int x1), some (.int x2), some (.int x3), some (.int x4), some (.int x5)] [.long y10, .long y9] y7.2 _
        refine gi_EvN 1 (pc' := 59) (lv' := [some (.ref x0), some (.int x1), some (.int x2), some (.int x3), some (.int x4), some (.int x5)]) (st' := [.int x5, .long y10, .long y9]) (h' := y7.2) rfl ?_
        obtain ⟨y11, qy11, hf⟩ := gi_bind hf
        refine gi_EvCS rfl rfl rfl rfl rfl (e_X6_part y7.2 _ _ _ _ qy11) ?_
        show gi_Ev M_X6_best 62 [some (.ref x0), some (.int x1), some (.int x2), some (.int x3), some (.int x4), some (.int x5)] [.long y11] y7.2 _
        cases hf
        exact gi_EvR rfl rfl
/-! X6_buys AdmiralGuineaModel.buys(IIII)I -/
def f_X6_buys (h : gi_H) (x0 : Nat) (x1 : Int32) (x2 : Int32) (x3 : Int32) (x4 : Int32) : Option (Int32 × gi_H) :=
  (f_X6_isBuyer x1).bind fun y1 => if y1 = 0 then some ((-1), h)
  else (f_X6_areOffers x2 x3 x4).bind fun y3 => if y3 = 0 then some ((-2), h)
  else if gi_is h x0 6 = true then (f_X6_bestSet h x0 x1 x2 x3 x4).bind fun y5 => some (y5.1, y5.2) else none
set_option maxRecDepth 20000 in
set_option maxHeartbeats 2000000 in
theorem e_X6_buys (h : gi_H) (x0 : Nat) (x1 : Int32) (x2 : Int32) (x3 : Int32) (x4 : Int32) (r : (Int32 × gi_H)) (hf : f_X6_buys h x0 x1 x2 x3 x4 = some r) : gi_Ev M_X6_buys 0 [some (.ref x0), some (.int x1), some (.int x2), some (.int x3), some (.int x4)] [] h (some (.int r.1), r.2) := by
  unfold f_X6_buys at hf
  refine gi_EvN 1 (pc' := 1) (lv' := [some (.ref x0), some (.int x1), some (.int x2), some (.int x3), some (.int x4)]) (st' := [.int x1]) (h' := h) rfl ?_
  obtain ⟨y1, qy1, hf⟩ := gi_bind hf
  refine gi_EvCS rfl rfl rfl rfl rfl (e_X6_isBuyer h _ _ qy1) ?_
  show gi_Ev M_X6_buys 4 [some (.ref x0), some (.int x1), some (.int x2), some (.int x3), some (.int x4)] [.int y1] h _
  refine gi_Ev_ne rfl (fun c2 => ?_) (fun c2 => ?_)
  · rw [if_pos c2] at hf
    refine gi_EvN 1 (pc' := 8) (lv' := [some (.ref x0), some (.int x1), some (.int x2), some (.int x3), some (.int x4)]) (st' := [.int (-1)]) (h' := h) rfl ?_
    cases hf
    exact gi_EvR rfl rfl
  · rw [if_neg c2] at hf
    refine gi_EvN 3 (pc' := 13) (lv' := [some (.ref x0), some (.int x1), some (.int x2), some (.int x3), some (.int x4)]) (st' := [.int x4, .int x3, .int x2]) (h' := h) rfl ?_
    obtain ⟨y3, qy3, hf⟩ := gi_bind hf
    refine gi_EvCS rfl rfl rfl rfl rfl (e_X6_areOffers h _ _ _ _ qy3) ?_
    show gi_Ev M_X6_buys 16 [some (.ref x0), some (.int x1), some (.int x2), some (.int x3), some (.int x4)] [.int y3] h _
    refine gi_Ev_eq rfl (fun c4 => ?_) (fun c4 => ?_)
    · rw [if_pos c4] at hf
      refine gi_EvN 1 (pc' := 33) (lv' := [some (.ref x0), some (.int x1), some (.int x2), some (.int x3), some (.int x4)]) (st' := [.int (-2)]) (h' := h) rfl ?_
      cases hf
      exact gi_EvR rfl rfl
    · rw [if_neg c4] at hf
      refine gi_EvN 5 (pc' := 25) (lv' := [some (.ref x0), some (.int x1), some (.int x2), some (.int x3), some (.int x4)]) (st' := [.int x4, .int x3, .int x2, .int x1, .ref x0]) (h' := h) rfl ?_
      by_cases c6 : gi_is h x0 6 = true
      rotate_left
      · rw [if_neg c6] at hf; cases hf
      rw [if_pos c6] at hf
      obtain ⟨y5, qy5, hf⟩ := gi_bind hf
      refine gi_EvCV rfl rfl c6 rfl rfl (e_X6_bestSet h _ _ _ _ _ _ qy5) ?_
      show gi_Ev M_X6_buys 28 [some (.ref x0), some (.int x1), some (.int x2), some (.int x3), some (.int x4)] [.int y5.1] y5.2 _
      refine gi_EvN 1 (pc' := 33) (lv' := [some (.ref x0), some (.int x1), some (.int x2), some (.int x3), some (.int x4)]) (st' := [.int y5.1]) (h' := y5.2) rfl ?_
      cases hf
      exact gi_EvR rfl rfl
/-! X6_voids AdmiralGuineaModel.voids(II)I -/
def f_X6_voids_227 (k_29 : gi_H → Nat → Int32 → Int32 → Int32 → Int32 → Option (Int32 × gi_H)) (h : gi_H) (x0 : Nat) (x1 : Int32) (x2 : Int32) (x3 : Int32) (x4 : Int32) (x5 : Int32) : Option (Int32 × gi_H) :=
  if x5 = 0 then k_29 h x0 x1 x2 x3 (x4 + 1)
  else k_29 h x0 x1 x2 x4 (x4 + 1)
set_option maxRecDepth 20000 in
set_option maxHeartbeats 2000000 in
theorem e_X6_voids_227 (k_29 : gi_H → Nat → Int32 → Int32 → Int32 → Int32 → Option (Int32 × gi_H)) (hk_29 : ∀ (g5 : Option Value) (g6 : Option Value) (h : gi_H) (x0 : Nat) (x1 : Int32) (x2 : Int32) (x3 : Int32) (x4 : Int32) (r : (Int32 × gi_H)), k_29 h x0 x1 x2 x3 x4 = some r → gi_Ev M_X6_voids 29 [some (.ref x0), some (.int x1), some (.int x2), some (.int x3), some (.int x4), g5, g6] [] h (some (.int r.1), r.2)) (g6 : Option Value) (h : gi_H) (x0 : Nat) (x1 : Int32) (x2 : Int32) (x3 : Int32) (x4 : Int32) (x5 : Int32) (r : (Int32 × gi_H)) (hf : f_X6_voids_227 k_29 h x0 x1 x2 x3 x4 x5 = some r) : gi_Ev M_X6_voids 227 [some (.ref x0), some (.int x1), some (.int x2), some (.int x3), some (.int x4), some (.int x5), g6] [] h (some (.int r.1), r.2) := by
  unfold f_X6_voids_227 at hf
  refine gi_EvN 1 (pc' := 229) (lv' := [some (.ref x0), some (.int x1), some (.int x2), some (.int x3), some (.int x4), some (.int x5), g6]) (st' := [.int x5]) (h' := h) rfl ?_
  refine gi_Ev_eq rfl (fun c1 => ?_) (fun c1 => ?_)
  · rw [if_pos c1] at hf
    refine gi_EvN 4 (pc' := 29) (lv' := [some (.ref x0), some (.int x1), some (.int x2), some (.int x3), some (.int (x4 + 1)), some (.int x5), g6]) (st' := []) (h' := h) rfl ?_
    exact hk_29 _ _ _ _  _  _  _  _ _ hf
  · rw [if_neg c1] at hf
    refine gi_EvN 5 (pc' := 29) (lv' := [some (.ref x0), some (.int x1), some (.int x2), some (.int x4), some (.int (x4 + 1)), some (.int x5), g6]) (st' := []) (h' := h) rfl ?_
    exact hk_29 _ _ _ _  _  _  _  _ _ hf
def f_X6_voids_191 (k_29 : gi_H → Nat → Int32 → Int32 → Int32 → Int32 → Option (Int32 × gi_H)) : Nat → gi_H → Nat → Int32 → Int32 → Int32 → Int32 → Int32 → Int32 → Option (Int32 × gi_H)
  | 0, _, _, _, _, _, _, _, _ => none
  | n + 1, h, x0, x1, x2, x3, x4, x5, x6 => if 24 ≤ x6 then f_X6_voids_227 k_29 h x0 x1 x2 x3 x4 x5
  else if x5 = 0 then f_X6_voids_191 k_29 n h x0 x1 x2 x3 x4 0 (x6 + 1)
  else (gi_fR h x0 6 12).bind fun y3 => (gi_ai h y3 0 x6).bind fun y4 => if x1 < y4 then f_X6_voids_191 k_29 n h x0 x1 x2 x3 x4 0 (x6 + 1)
  else f_X6_voids_191 k_29 n h x0 x1 x2 x3 x4 1 (x6 + 1)
set_option maxRecDepth 20000 in
set_option maxHeartbeats 2000000 in
theorem e_X6_voids_191 (k_29 : gi_H → Nat → Int32 → Int32 → Int32 → Int32 → Option (Int32 × gi_H)) (hk_29 : ∀ (g5 : Option Value) (g6 : Option Value) (h : gi_H) (x0 : Nat) (x1 : Int32) (x2 : Int32) (x3 : Int32) (x4 : Int32) (r : (Int32 × gi_H)), k_29 h x0 x1 x2 x3 x4 = some r → gi_Ev M_X6_voids 29 [some (.ref x0), some (.int x1), some (.int x2), some (.int x3), some (.int x4), g5, g6] [] h (some (.int r.1), r.2)) : ∀ (n : Nat) (h : gi_H) (x0 : Nat) (x1 : Int32) (x2 : Int32) (x3 : Int32) (x4 : Int32) (x5 : Int32) (x6 : Int32) (r : (Int32 × gi_H)), f_X6_voids_191 k_29 n h x0 x1 x2 x3 x4 x5 x6 = some r → gi_Ev M_X6_voids 191 [some (.ref x0), some (.int x1), some (.int x2), some (.int x3), some (.int x4), some (.int x5), some (.int x6)] [] h (some (.int r.1), r.2) := by
  intro n
  induction n with
  | zero =>
    intro h x0 x1 x2 x3 x4 x5 x6 r hf
    unfold f_X6_voids_191 at hf
    cases hf
  | succ n ih =>
    intro h x0 x1 x2 x3 x4 x5 x6 r hf
    unfold f_X6_voids_191 at hf
    refine gi_EvN 2 (pc' := 195) (lv' := [some (.ref x0), some (.int x1), some (.int x2), some (.int x3), some (.int x4), some (.int x5), some (.int x6)]) (st' := [.int 24, .int x6]) (h' := h) rfl ?_
    refine gi_Ev_ige rfl (fun c1 => ?_) (fun c1 => ?_)
    · rw [if_pos c1] at hf
      exact e_X6_voids_227 _ hk_29 _ h _ _ _ _ _ _ _ hf
    · rw [if_neg c1] at hf
      refine gi_EvN 1 (pc' := 200) (lv' := [some (.ref x0), some (.int x1), some (.int x2), some (.int x3), some (.int x4), some (.int x5), some (.int x6)]) (st' := [.int x5]) (h' := h) rfl ?_
      refine gi_Ev_eq rfl (fun c2 => ?_) (fun c2 => ?_)
      · rw [if_pos c2] at hf
        refine gi_EvN 4 (pc' := 191) (lv' := [some (.ref x0), some (.int x1), some (.int x2), some (.int x3), some (.int x4), some (.int 0), some (.int (x6 + 1))]) (st' := []) (h' := h) rfl ?_
        exact ih  _ _  _  _  _  _  _  _ _ hf
      · rw [if_neg c2] at hf
        refine gi_EvN 1 (pc' := 204) (lv' := [some (.ref x0), some (.int x1), some (.int x2), some (.int x3), some (.int x4), some (.int x5), some (.int x6)]) (st' := [.ref x0]) (h' := h) rfl ?_
        obtain ⟨y3, qy3, hf⟩ := gi_bind hf
        refine gi_EvF rfl (gi_fR_inv qy3) ?_
        refine gi_EvN 1 (pc' := 209) (lv' := [some (.ref x0), some (.int x1), some (.int x2), some (.int x3), some (.int x4), some (.int x5), some (.int x6)]) (st' := [.int x6, .ref y3]) (h' := h) rfl ?_
        obtain ⟨y4, qy4, hf⟩ := gi_bind hf
        refine gi_EvAi rfl qy4 ?_
        refine gi_EvN 1 (pc' := 211) (lv' := [some (.ref x0), some (.int x1), some (.int x2), some (.int x3), some (.int x4), some (.int x5), some (.int x6)]) (st' := [.int x1, .int y4]) (h' := h) rfl ?_
        refine gi_Ev_igt rfl (fun c5 => ?_) (fun c5 => ?_)
        · rw [if_pos c5] at hf
          refine gi_EvN 4 (pc' := 191) (lv' := [some (.ref x0), some (.int x1), some (.int x2), some (.int x3), some (.int x4), some (.int 0), some (.int (x6 + 1))]) (st' := []) (h' := h) rfl ?_
          exact ih  _ _  _  _  _  _  _  _ _ hf
        · rw [if_neg c5] at hf
          refine gi_EvN 5 (pc' := 191) (lv' := [some (.ref x0), some (.int x1), some (.int x2), some (.int x3), some (.int x4), some (.int 1), some (.int (x6 + 1))]) (st' := []) (h' := h) rfl ?_
          exact ih  _ _  _  _  _  _  _  _ _ hf
def f_X6_voids_107 (k_29 : gi_H → Nat → Int32 → Int32 → Int32 → Int32 → Option (Int32 × gi_H)) : Nat → gi_H → Nat → Int32 → Int32 → Int32 → Int32 → Int32 → Int32 → Option (Int32 × gi_H)
  | 0, _, _, _, _, _, _, _, _ => none
  | n + 1, h, x0, x1, x2, x3, x4, x5, x6 => if 12 ≤ x6 then f_X6_voids_191 k_29 gi_F h x0 x1 x2 x3 x4 x5 0
  else (gi_fR h x0 6 0).bind fun y2 => (gi_ai h y2 0 14).bind fun y3 => (f_X6_has (y3 &&& (x4 ^^^ (-1))) x6).bind fun y4 => if y4 = 0 then f_X6_voids_107 k_29 n h x0 x1 x2 x3 x4 x5 (x6 + 1)
  else (gi_fR h x0 6 12).bind fun y6 => (gi_fR h x0 6 0).bind fun y7 => (gi_ai h y7 0 (15 + (4 * x6))).bind fun y8 => (gi_fR h x0 6 0).bind fun y9 => (gi_ai h y9 0 (16 + (4 * x6))).bind fun y10 => (gi_ai h y6 0 ((6 * y8) + y10)).bind fun y11 => (gi_fR h x0 6 0).bind fun y12 => (gi_ai h y12 0 (17 + (4 * x6))).bind fun y13 => (gi_pi h y6 0 ((6 * y8) + y10) (y11 + y13)).bind fun h14 => f_X6_voids_107 k_29 n h14 x0 x1 x2 x3 x4 x5 (x6 + 1)
set_option maxRecDepth 20000 in
set_option maxHeartbeats 2000000 in
theorem e_X6_voids_107 (k_29 : gi_H → Nat → Int32 → Int32 → Int32 → Int32 → Option (Int32 × gi_H)) (hk_29 : ∀ (g5 : Option Value) (g6 : Option Value) (h : gi_H) (x0 : Nat) (x1 : Int32) (x2 : Int32) (x3 : Int32) (x4 : Int32) (r : (Int32 × gi_H)), k_29 h x0 x1 x2 x3 x4 = some r → gi_Ev M_X6_voids 29 [some (.ref x0), some (.int x1), some (.int x2), some (.int x3), some (.int x4), g5, g6] [] h (some (.int r.1), r.2)) : ∀ (n : Nat) (h : gi_H) (x0 : Nat) (x1 : Int32) (x2 : Int32) (x3 : Int32) (x4 : Int32) (x5 : Int32) (x6 : Int32) (r : (Int32 × gi_H)), f_X6_voids_107 k_29 n h x0 x1 x2 x3 x4 x5 x6 = some r → gi_Ev M_X6_voids 107 [some (.ref x0), some (.int x1), some (.int x2), some (.int x3), some (.int x4), some (.int x5), some (.int x6)] [] h (some (.int r.1), r.2) := by
  intro n
  induction n with
  | zero =>
    intro h x0 x1 x2 x3 x4 x5 x6 r hf
    unfold f_X6_voids_107 at hf
    cases hf
  | succ n ih =>
    intro h x0 x1 x2 x3 x4 x5 x6 r hf
    unfold f_X6_voids_107 at hf
    refine gi_EvN 2 (pc' := 111) (lv' := [some (.ref x0), some (.int x1), some (.int x2), some (.int x3), some (.int x4), some (.int x5), some (.int x6)]) (st' := [.int 12, .int x6]) (h' := h) rfl ?_
    refine gi_Ev_ige rfl (fun c1 => ?_) (fun c1 => ?_)
    · rw [if_pos c1] at hf
      refine gi_EvN 2 (pc' := 191) (lv' := [some (.ref x0), some (.int x1), some (.int x2), some (.int x3), some (.int x4), some (.int x5), some (.int 0)]) (st' := []) (h' := h) rfl ?_
      exact e_X6_voids_191 _ hk_29 gi_F h _ _ _ _ _ _ _ _ hf
    · rw [if_neg c1] at hf
      refine gi_EvN 1 (pc' := 115) (lv' := [some (.ref x0), some (.int x1), some (.int x2), some (.int x3), some (.int x4), some (.int x5), some (.int x6)]) (st' := [.ref x0]) (h' := h) rfl ?_
      obtain ⟨y2, qy2, hf⟩ := gi_bind hf
      refine gi_EvF rfl (gi_fR_inv qy2) ?_
      refine gi_EvN 1 (pc' := 120) (lv' := [some (.ref x0), some (.int x1), some (.int x2), some (.int x3), some (.int x4), some (.int x5), some (.int x6)]) (st' := [.int 14, .ref y2]) (h' := h) rfl ?_
      obtain ⟨y3, qy3, hf⟩ := gi_bind hf
      refine gi_EvAi rfl qy3 ?_
      refine gi_EvN 5 (pc' := 128) (lv' := [some (.ref x0), some (.int x1), some (.int x2), some (.int x3), some (.int x4), some (.int x5), some (.int x6)]) (st' := [.int x6, .int (y3 &&& (x4 ^^^ (-1)))]) (h' := h) rfl ?_
      obtain ⟨y4, qy4, hf⟩ := gi_bind hf
      refine gi_EvCS rfl rfl rfl rfl rfl (e_X6_has h _ _ _ qy4) ?_
      show gi_Ev M_X6_voids 131 [some (.ref x0), some (.int x1), some (.int x2), some (.int x3), some (.int x4), some (.int x5), some (.int x6)] [.int y4] h _
      refine gi_Ev_eq rfl (fun c5 => ?_) (fun c5 => ?_)
      · rw [if_pos c5] at hf
        refine gi_EvN 2 (pc' := 107) (lv' := [some (.ref x0), some (.int x1), some (.int x2), some (.int x3), some (.int x4), some (.int x5), some (.int (x6 + 1))]) (st' := []) (h' := h) rfl ?_
        exact ih  _ _  _  _  _  _  _  _ _ hf
      · rw [if_neg c5] at hf
        refine gi_EvN 1 (pc' := 135) (lv' := [some (.ref x0), some (.int x1), some (.int x2), some (.int x3), some (.int x4), some (.int x5), some (.int x6)]) (st' := [.ref x0]) (h' := h) rfl ?_
        obtain ⟨y6, qy6, hf⟩ := gi_bind hf
        refine gi_EvF rfl (gi_fR_inv qy6) ?_
        refine gi_EvN 2 (pc' := 141) (lv' := [some (.ref x0), some (.int x1), some (.int x2), some (.int x3), some (.int x4), some (.int x5), some (.int x6)]) (st' := [.ref x0, .int 6, .ref y6]) (h' := h) rfl ?_
        obtain ⟨y7, qy7, hf⟩ := gi_bind hf
        refine gi_EvF rfl (gi_fR_inv qy7) ?_
        refine gi_EvN 5 (pc' := 151) (lv' := [some (.ref x0), some (.int x1), some (.int x2), some (.int x3), some (.int x4), some (.int x5), some (.int x6)]) (st' := [.int (15 + (4 * x6)), .ref y7, .int 6, .ref y6]) (h' := h) rfl ?_
        obtain ⟨y8, qy8, hf⟩ := gi_bind hf
        refine gi_EvAi rfl qy8 ?_
        refine gi_EvN 2 (pc' := 154) (lv' := [some (.ref x0), some (.int x1), some (.int x2), some (.int x3), some (.int x4), some (.int x5), some (.int x6)]) (st' := [.ref x0, .int (6 * y8), .ref y6]) (h' := h) rfl ?_
        obtain ⟨y9, qy9, hf⟩ := gi_bind hf
        refine gi_EvF rfl (gi_fR_inv qy9) ?_
        refine gi_EvN 5 (pc' := 164) (lv' := [some (.ref x0), some (.int x1), some (.int x2), some (.int x3), some (.int x4), some (.int x5), some (.int x6)]) (st' := [.int (16 + (4 * x6)), .ref y9, .int (6 * y8), .ref y6]) (h' := h) rfl ?_
        obtain ⟨y10, qy10, hf⟩ := gi_bind hf
        refine gi_EvAi rfl qy10 ?_
        refine gi_EvN 2 (pc' := 167) (lv' := [some (.ref x0), some (.int x1), some (.int x2), some (.int x3), some (.int x4), some (.int x5), some (.int x6)]) (st' := [.int ((6 * y8) + y10), .ref y6, .int ((6 * y8) + y10), .ref y6]) (h' := h) rfl ?_
        obtain ⟨y11, qy11, hf⟩ := gi_bind hf
        refine gi_EvAi rfl qy11 ?_
        refine gi_EvN 1 (pc' := 169) (lv' := [some (.ref x0), some (.int x1), some (.int x2), some (.int x3), some (.int x4), some (.int x5), some (.int x6)]) (st' := [.ref x0, .int y11, .int ((6 * y8) + y10), .ref y6]) (h' := h) rfl ?_
        obtain ⟨y12, qy12, hf⟩ := gi_bind hf
        refine gi_EvF rfl (gi_fR_inv qy12) ?_
        refine gi_EvN 5 (pc' := 179) (lv' := [some (.ref x0), some (.int x1), some (.int x2), some (.int x3), some (.int x4), some (.int x5), some (.int x6)]) (st' := [.int (17 + (4 * x6)), .ref y12, .int y11, .int ((6 * y8) + y10), .ref y6]) (h' := h) rfl ?_
        obtain ⟨y13, qy13, hf⟩ := gi_bind hf
        refine gi_EvAi rfl qy13 ?_
        refine gi_EvN 1 (pc' := 181) (lv' := [some (.ref x0), some (.int x1), some (.int x2), some (.int x3), some (.int x4), some (.int x5), some (.int x6)]) (st' := [.int (y11 + y13), .int ((6 * y8) + y10), .ref y6]) (h' := h) rfl ?_
        obtain ⟨h14, qh14, hf⟩ := gi_bind hf
        refine gi_EvPi rfl qh14 ?_
        refine gi_EvN 2 (pc' := 107) (lv' := [some (.ref x0), some (.int x1), some (.int x2), some (.int x3), some (.int x4), some (.int x5), some (.int (x6 + 1))]) (st' := []) (h' := h14) rfl ?_
        exact ih  _ _  _  _  _  _  _  _ _ hf
def f_X6_voids_83 (k_29 : gi_H → Nat → Int32 → Int32 → Int32 → Int32 → Option (Int32 × gi_H)) : Nat → gi_H → Nat → Int32 → Int32 → Int32 → Int32 → Int32 → Int32 → Option (Int32 × gi_H)
  | 0, _, _, _, _, _, _, _, _ => none
  | n + 1, h, x0, x1, x2, x3, x4, x5, x6 => if 24 ≤ x6 then f_X6_voids_107 k_29 gi_F h x0 x1 x2 x3 x4 x5 0
  else (gi_fR h x0 6 12).bind fun y2 => (gi_pi h y2 0 x6 0).bind fun h3 => f_X6_voids_83 k_29 n h3 x0 x1 x2 x3 x4 x5 (x6 + 1)
set_option maxRecDepth 20000 in
set_option maxHeartbeats 2000000 in
theorem e_X6_voids_83 (k_29 : gi_H → Nat → Int32 → Int32 → Int32 → Int32 → Option (Int32 × gi_H)) (hk_29 : ∀ (g5 : Option Value) (g6 : Option Value) (h : gi_H) (x0 : Nat) (x1 : Int32) (x2 : Int32) (x3 : Int32) (x4 : Int32) (r : (Int32 × gi_H)), k_29 h x0 x1 x2 x3 x4 = some r → gi_Ev M_X6_voids 29 [some (.ref x0), some (.int x1), some (.int x2), some (.int x3), some (.int x4), g5, g6] [] h (some (.int r.1), r.2)) : ∀ (n : Nat) (h : gi_H) (x0 : Nat) (x1 : Int32) (x2 : Int32) (x3 : Int32) (x4 : Int32) (x5 : Int32) (x6 : Int32) (r : (Int32 × gi_H)), f_X6_voids_83 k_29 n h x0 x1 x2 x3 x4 x5 x6 = some r → gi_Ev M_X6_voids 83 [some (.ref x0), some (.int x1), some (.int x2), some (.int x3), some (.int x4), some (.int x5), some (.int x6)] [] h (some (.int r.1), r.2) := by
  intro n
  induction n with
  | zero =>
    intro h x0 x1 x2 x3 x4 x5 x6 r hf
    unfold f_X6_voids_83 at hf
    cases hf
  | succ n ih =>
    intro h x0 x1 x2 x3 x4 x5 x6 r hf
    unfold f_X6_voids_83 at hf
    refine gi_EvN 2 (pc' := 87) (lv' := [some (.ref x0), some (.int x1), some (.int x2), some (.int x3), some (.int x4), some (.int x5), some (.int x6)]) (st' := [.int 24, .int x6]) (h' := h) rfl ?_
    refine gi_Ev_ige rfl (fun c1 => ?_) (fun c1 => ?_)
    · rw [if_pos c1] at hf
      refine gi_EvN 2 (pc' := 107) (lv' := [some (.ref x0), some (.int x1), some (.int x2), some (.int x3), some (.int x4), some (.int x5), some (.int 0)]) (st' := []) (h' := h) rfl ?_
      exact e_X6_voids_107 _ hk_29 gi_F h _ _ _ _ _ _ _ _ hf
    · rw [if_neg c1] at hf
      refine gi_EvN 1 (pc' := 91) (lv' := [some (.ref x0), some (.int x1), some (.int x2), some (.int x3), some (.int x4), some (.int x5), some (.int x6)]) (st' := [.ref x0]) (h' := h) rfl ?_
      obtain ⟨y2, qy2, hf⟩ := gi_bind hf
      refine gi_EvF rfl (gi_fR_inv qy2) ?_
      refine gi_EvN 2 (pc' := 97) (lv' := [some (.ref x0), some (.int x1), some (.int x2), some (.int x3), some (.int x4), some (.int x5), some (.int x6)]) (st' := [.int 0, .int x6, .ref y2]) (h' := h) rfl ?_
      obtain ⟨h3, qh3, hf⟩ := gi_bind hf
      refine gi_EvPi rfl qh3 ?_
      refine gi_EvN 2 (pc' := 83) (lv' := [some (.ref x0), some (.int x1), some (.int x2), some (.int x3), some (.int x4), some (.int x5), some (.int (x6 + 1))]) (st' := []) (h' := h3) rfl ?_
      exact ih  _ _  _  _  _  _  _  _ _ hf
def f_X6_voids_73 (k_29 : gi_H → Nat → Int32 → Int32 → Int32 → Int32 → Option (Int32 × gi_H)) (h : gi_H) (x0 : Nat) (x1 : Int32) (x2 : Int32) (x3 : Int32) (x4 : Int32) (t0 : Int32) : Option (Int32 × gi_H) :=
  if t0 = 0 then k_29 h x0 x1 x2 x3 (x4 + 1)
  else f_X6_voids_83 k_29 gi_F h x0 x1 x2 x3 x4 t0 0
set_option maxRecDepth 20000 in
set_option maxHeartbeats 2000000 in
theorem e_X6_voids_73 (k_29 : gi_H → Nat → Int32 → Int32 → Int32 → Int32 → Option (Int32 × gi_H)) (hk_29 : ∀ (g5 : Option Value) (g6 : Option Value) (h : gi_H) (x0 : Nat) (x1 : Int32) (x2 : Int32) (x3 : Int32) (x4 : Int32) (r : (Int32 × gi_H)), k_29 h x0 x1 x2 x3 x4 = some r → gi_Ev M_X6_voids 29 [some (.ref x0), some (.int x1), some (.int x2), some (.int x3), some (.int x4), g5, g6] [] h (some (.int r.1), r.2)) (g5 : Option Value) (g6 : Option Value) (h : gi_H) (x0 : Nat) (x1 : Int32) (x2 : Int32) (x3 : Int32) (x4 : Int32) (t0 : Int32) (r : (Int32 × gi_H)) (hf : f_X6_voids_73 k_29 h x0 x1 x2 x3 x4 t0 = some r) : gi_Ev M_X6_voids 73 [some (.ref x0), some (.int x1), some (.int x2), some (.int x3), some (.int x4), g5, g6] [.int t0] h (some (.int r.1), r.2) := by
  unfold f_X6_voids_73 at hf
  refine gi_EvN 2 (pc' := 77) (lv' := [some (.ref x0), some (.int x1), some (.int x2), some (.int x3), some (.int x4), some (.int t0), g6]) (st' := [.int t0]) (h' := h) rfl ?_
  refine gi_Ev_eq rfl (fun c1 => ?_) (fun c1 => ?_)
  · rw [if_pos c1] at hf
    refine gi_EvN 2 (pc' := 29) (lv' := [some (.ref x0), some (.int x1), some (.int x2), some (.int x3), some (.int (x4 + 1)), some (.int t0), g6]) (st' := []) (h' := h) rfl ?_
    exact hk_29 _ _ _ _  _  _  _  _ _ hf
  · rw [if_neg c1] at hf
    refine gi_EvN 2 (pc' := 83) (lv' := [some (.ref x0), some (.int x1), some (.int x2), some (.int x3), some (.int x4), some (.int t0), some (.int 0)]) (st' := []) (h' := h) rfl ?_
    exact e_X6_voids_83 _ hk_29 gi_F h _ _ _ _ _ _ _ _ hf
def f_X6_voids_68 (k_29 : gi_H → Nat → Int32 → Int32 → Int32 → Int32 → Option (Int32 × gi_H)) (h : gi_H) (x0 : Nat) (x1 : Int32) (x2 : Int32) (x3 : Int32) (x4 : Int32) : Option (Int32 × gi_H) :=
  f_X6_voids_73 k_29 h x0 x1 x2 x3 x4 1
set_option maxRecDepth 20000 in
set_option maxHeartbeats 2000000 in
theorem e_X6_voids_68 (k_29 : gi_H → Nat → Int32 → Int32 → Int32 → Int32 → Option (Int32 × gi_H)) (hk_29 : ∀ (g5 : Option Value) (g6 : Option Value) (h : gi_H) (x0 : Nat) (x1 : Int32) (x2 : Int32) (x3 : Int32) (x4 : Int32) (r : (Int32 × gi_H)), k_29 h x0 x1 x2 x3 x4 = some r → gi_Ev M_X6_voids 29 [some (.ref x0), some (.int x1), some (.int x2), some (.int x3), some (.int x4), g5, g6] [] h (some (.int r.1), r.2)) (g5 : Option Value) (g6 : Option Value) (h : gi_H) (x0 : Nat) (x1 : Int32) (x2 : Int32) (x3 : Int32) (x4 : Int32) (r : (Int32 × gi_H)) (hf : f_X6_voids_68 k_29 h x0 x1 x2 x3 x4 = some r) : gi_Ev M_X6_voids 68 [some (.ref x0), some (.int x1), some (.int x2), some (.int x3), some (.int x4), g5, g6] [] h (some (.int r.1), r.2) := by
  unfold f_X6_voids_68 at hf
  refine gi_EvN 2 (pc' := 73) (lv' := [some (.ref x0), some (.int x1), some (.int x2), some (.int x3), some (.int x4), g5, g6]) (st' := [.int 1]) (h' := h) rfl ?_
  exact e_X6_voids_73 _ hk_29 _ _ h _ _ _ _ _ _ _ hf
def f_X6_voids_72 (k_29 : gi_H → Nat → Int32 → Int32 → Int32 → Int32 → Option (Int32 × gi_H)) (h : gi_H) (x0 : Nat) (x1 : Int32) (x2 : Int32) (x3 : Int32) (x4 : Int32) : Option (Int32 × gi_H) :=
  f_X6_voids_73 k_29 h x0 x1 x2 x3 x4 0
set_option maxRecDepth 20000 in
set_option maxHeartbeats 2000000 in
theorem e_X6_voids_72 (k_29 : gi_H → Nat → Int32 → Int32 → Int32 → Int32 → Option (Int32 × gi_H)) (hk_29 : ∀ (g5 : Option Value) (g6 : Option Value) (h : gi_H) (x0 : Nat) (x1 : Int32) (x2 : Int32) (x3 : Int32) (x4 : Int32) (r : (Int32 × gi_H)), k_29 h x0 x1 x2 x3 x4 = some r → gi_Ev M_X6_voids 29 [some (.ref x0), some (.int x1), some (.int x2), some (.int x3), some (.int x4), g5, g6] [] h (some (.int r.1), r.2)) (g5 : Option Value) (g6 : Option Value) (h : gi_H) (x0 : Nat) (x1 : Int32) (x2 : Int32) (x3 : Int32) (x4 : Int32) (r : (Int32 × gi_H)) (hf : f_X6_voids_72 k_29 h x0 x1 x2 x3 x4 = some r) : gi_Ev M_X6_voids 72 [some (.ref x0), some (.int x1), some (.int x2), some (.int x3), some (.int x4), g5, g6] [] h (some (.int r.1), r.2) := by
  unfold f_X6_voids_72 at hf
  refine gi_EvN 1 (pc' := 73) (lv' := [some (.ref x0), some (.int x1), some (.int x2), some (.int x3), some (.int x4), g5, g6]) (st' := [.int 0]) (h' := h) rfl ?_
  exact e_X6_voids_73 _ hk_29 _ _ h _ _ _ _ _ _ _ hf
def f_X6_voids_245 (h : gi_H) (x2 : Int32) (x3 : Int32) : Option (Int32 × gi_H) :=
  if x3 < 0 then some (x3, h)
  else if x2 = 1 then some (x3, h)
  else (f_X6_bits x3).bind fun y3 => some (y3, h)
set_option maxRecDepth 20000 in
set_option maxHeartbeats 2000000 in
theorem e_X6_voids_245 (g0 : Option Value) (g1 : Option Value) (g4 : Option Value) (g5 : Option Value) (g6 : Option Value) (h : gi_H) (x2 : Int32) (x3 : Int32) (r : (Int32 × gi_H)) (hf : f_X6_voids_245 h x2 x3 = some r) : gi_Ev M_X6_voids 245 [g0, g1, some (.int x2), some (.int x3), g4, g5, g6] [] h (some (.int r.1), r.2) := by
  unfold f_X6_voids_245 at hf
  refine gi_EvN 1 (pc' := 246) (lv' := [g0, g1, some (.int x2), some (.int x3), g4, g5, g6]) (st' := [.int x3]) (h' := h) rfl ?_
  refine gi_Ev_lt rfl (fun c1 => ?_) (fun c1 => ?_)
  · rw [if_pos c1] at hf
    refine gi_EvN 2 (pc' := 262) (lv' := [g0, g1, some (.int x2), some (.int x3), g4, g5, g6]) (st' := [.int x3]) (h' := h) rfl ?_
    cases hf
    exact gi_EvR rfl rfl
  · rw [if_neg c1] at hf
    refine gi_EvN 2 (pc' := 251) (lv' := [g0, g1, some (.int x2), some (.int x3), g4, g5, g6]) (st' := [.int 1, .int x2]) (h' := h) rfl ?_
    refine gi_Ev_ine rfl (fun c2 => ?_) (fun c2 => ?_)
    · rw [if_pos c2] at hf
      refine gi_EvN 2 (pc' := 262) (lv' := [g0, g1, some (.int x2), some (.int x3), g4, g5, g6]) (st' := [.int x3]) (h' := h) rfl ?_
      cases hf
      exact gi_EvR rfl rfl
    · rw [if_neg c2] at hf
      refine gi_EvN 1 (pc' := 259) (lv' := [g0, g1, some (.int x2), some (.int x3), g4, g5, g6]) (st' := [.int x3]) (h' := h) rfl ?_
      obtain ⟨y3, qy3, hf⟩ := gi_bind hf
      refine gi_EvCS rfl rfl rfl rfl rfl (e_X6_bits h _ _ qy3) ?_
      show gi_Ev M_X6_voids 262 [g0, g1, some (.int x2), some (.int x3), g4, g5, g6] [.int y3] h _
      cases hf
      exact gi_EvR rfl rfl
def f_X6_voids_29 : Nat → gi_H → Nat → Int32 → Int32 → Int32 → Int32 → Option (Int32 × gi_H)
  | 0, _, _, _, _, _, _ => none
  | n + 1, h, x0, x1, x2, x3, x4 => if 4096 ≤ x4 then f_X6_voids_245 h x2 x3
  else (gi_fR h x0 6 0).bind fun y2 => (gi_ai h y2 0 14).bind fun y3 => if (x4 &&& (y3 ^^^ (-1))) = 0 then if x3 < 0 then f_X6_voids_68 (f_X6_voids_29 n) h x0 x1 x2 x3 x4
  else (f_X6_bits x4).bind fun y6 => (f_X6_bits x3).bind fun y7 => if y7 ≤ y6 then f_X6_voids_72 (f_X6_voids_29 n) h x0 x1 x2 x3 x4
  else f_X6_voids_68 (f_X6_voids_29 n) h x0 x1 x2 x3 x4
  else f_X6_voids_72 (f_X6_voids_29 n) h x0 x1 x2 x3 x4
set_option maxRecDepth 20000 in
set_option maxHeartbeats 2000000 in
theorem e_X6_voids_29 : ∀ (n : Nat) (g5 : Option Value) (g6 : Option Value) (h : gi_H) (x0 : Nat) (x1 : Int32) (x2 : Int32) (x3 : Int32) (x4 : Int32) (r : (Int32 × gi_H)), f_X6_voids_29 n h x0 x1 x2 x3 x4 = some r → gi_Ev M_X6_voids 29 [some (.ref x0), some (.int x1), some (.int x2), some (.int x3), some (.int x4), g5, g6] [] h (some (.int r.1), r.2) := by
  intro n
  induction n with
  | zero =>
    intro g5 g6 h x0 x1 x2 x3 x4 r hf
    unfold f_X6_voids_29 at hf
    cases hf
  | succ n ih =>
    intro g5 g6 h x0 x1 x2 x3 x4 r hf
    unfold f_X6_voids_29 at hf
    refine gi_EvN 2 (pc' := 34) (lv' := [some (.ref x0), some (.int x1), some (.int x2), some (.int x3), some (.int x4), g5, g6]) (st' := [.int 4096, .int x4]) (h' := h) rfl ?_
    refine gi_Ev_ige rfl (fun c1 => ?_) (fun c1 => ?_)
    · rw [if_pos c1] at hf
      exact e_X6_voids_245 _ _ _ _ _ h _ _ _ hf
    · rw [if_neg c1] at hf
      refine gi_EvN 2 (pc' := 40) (lv' := [some (.ref x0), some (.int x1), some (.int x2), some (.int x3), some (.int x4), g5, g6]) (st' := [.ref x0, .int x4]) (h' := h) rfl ?_
      obtain ⟨y2, qy2, hf⟩ := gi_bind hf
      refine gi_EvF rfl (gi_fR_inv qy2) ?_
      refine gi_EvN 1 (pc' := 45) (lv' := [some (.ref x0), some (.int x1), some (.int x2), some (.int x3), some (.int x4), g5, g6]) (st' := [.int 14, .ref y2, .int x4]) (h' := h) rfl ?_
      obtain ⟨y3, qy3, hf⟩ := gi_bind hf
      refine gi_EvAi rfl qy3 ?_
      refine gi_EvN 3 (pc' := 49) (lv' := [some (.ref x0), some (.int x1), some (.int x2), some (.int x3), some (.int x4), g5, g6]) (st' := [.int (x4 &&& (y3 ^^^ (-1)))]) (h' := h) rfl ?_
      refine gi_Ev_ne rfl (fun c4 => ?_) (fun c4 => ?_)
      · rw [if_pos c4] at hf
        refine gi_EvN 1 (pc' := 53) (lv' := [some (.ref x0), some (.int x1), some (.int x2), some (.int x3), some (.int x4), g5, g6]) (st' := [.int x3]) (h' := h) rfl ?_
        refine gi_Ev_lt rfl (fun c5 => ?_) (fun c5 => ?_)
        · rw [if_pos c5] at hf
          exact e_X6_voids_68 _ ih _ _ h _ _ _ _ _ _ hf
        · rw [if_neg c5] at hf
          refine gi_EvN 1 (pc' := 58) (lv' := [some (.ref x0), some (.int x1), some (.int x2), some (.int x3), some (.int x4), g5, g6]) (st' := [.int x4]) (h' := h) rfl ?_
          obtain ⟨y6, qy6, hf⟩ := gi_bind hf
          refine gi_EvCS rfl rfl rfl rfl rfl (e_X6_bits h _ _ qy6) ?_
          show gi_Ev M_X6_voids 61 [some (.ref x0), some (.int x1), some (.int x2), some (.int x3), some (.int x4), g5, g6] [.int y6] h _
          refine gi_EvN 1 (pc' := 62) (lv' := [some (.ref x0), some (.int x1), some (.int x2), some (.int x3), some (.int x4), g5, g6]) (st' := [.int x3, .int y6]) (h' := h) rfl ?_
          obtain ⟨y7, qy7, hf⟩ := gi_bind hf
          refine gi_EvCS rfl rfl rfl rfl rfl (e_X6_bits h _ _ qy7) ?_
          show gi_Ev M_X6_voids 65 [some (.ref x0), some (.int x1), some (.int x2), some (.int x3), some (.int x4), g5, g6] [.int y7, .int y6] h _
          refine gi_Ev_ige rfl (fun c8 => ?_) (fun c8 => ?_)
          · rw [if_pos c8] at hf
            exact e_X6_voids_72 _ ih _ _ h _ _ _ _ _ _ hf
          · rw [if_neg c8] at hf
            exact e_X6_voids_68 _ ih _ _ h _ _ _ _ _ _ hf
      · rw [if_neg c4] at hf
        exact e_X6_voids_72 _ ih _ _ h _ _ _ _ _ _ hf
def f_X6_voids (h : gi_H) (x0 : Nat) (x1 : Int32) (x2 : Int32) : Option (Int32 × gi_H) :=
  (f_X6_in x1 0 999).bind fun y1 => if y1 = 0 then some ((-2), h)
  else (f_X6_in x2 0 1).bind fun y3 => if y3 = 0 then some ((-2), h)
  else f_X6_voids_29 gi_F h x0 x1 x2 (-6) 0
set_option maxRecDepth 20000 in
set_option maxHeartbeats 2000000 in
theorem e_X6_voids (h : gi_H) (x0 : Nat) (x1 : Int32) (x2 : Int32) (r : (Int32 × gi_H)) (hf : f_X6_voids h x0 x1 x2 = some r) : gi_Ev M_X6_voids 0 [some (.ref x0), some (.int x1), some (.int x2), none, none, none, none] [] h (some (.int r.1), r.2) := by
  unfold f_X6_voids at hf
  refine gi_EvN 3 (pc' := 5) (lv' := [some (.ref x0), some (.int x1), some (.int x2), none, none, none, none]) (st' := [.int 999, .int 0, .int x1]) (h' := h) rfl ?_
  obtain ⟨y1, qy1, hf⟩ := gi_bind hf
  refine gi_EvCS rfl rfl rfl rfl rfl (e_X6_in h _ _ _ _ qy1) ?_
  show gi_Ev M_X6_voids 8 [some (.ref x0), some (.int x1), some (.int x2), none, none, none, none] [.int y1] h _
  refine gi_Ev_eq rfl (fun c2 => ?_) (fun c2 => ?_)
  · rw [if_pos c2] at hf
    refine gi_EvN 1 (pc' := 22) (lv' := [some (.ref x0), some (.int x1), some (.int x2), none, none, none, none]) (st' := [.int (-2)]) (h' := h) rfl ?_
    cases hf
    exact gi_EvR rfl rfl
  · rw [if_neg c2] at hf
    refine gi_EvN 3 (pc' := 14) (lv' := [some (.ref x0), some (.int x1), some (.int x2), none, none, none, none]) (st' := [.int 1, .int 0, .int x2]) (h' := h) rfl ?_
    obtain ⟨y3, qy3, hf⟩ := gi_bind hf
    refine gi_EvCS rfl rfl rfl rfl rfl (e_X6_in h _ _ _ _ qy3) ?_
    show gi_Ev M_X6_voids 17 [some (.ref x0), some (.int x1), some (.int x2), none, none, none, none] [.int y3] h _
    refine gi_Ev_ne rfl (fun c4 => ?_) (fun c4 => ?_)
    · rw [if_pos c4] at hf
      refine gi_EvN 1 (pc' := 22) (lv' := [some (.ref x0), some (.int x1), some (.int x2), none, none, none, none]) (st' := [.int (-2)]) (h' := h) rfl ?_
      cases hf
      exact gi_EvR rfl rfl
    · rw [if_neg c4] at hf
      refine gi_EvN 4 (pc' := 29) (lv' := [some (.ref x0), some (.int x1), some (.int x2), some (.int (-6)), some (.int 0), none, none]) (st' := []) (h' := h) rfl ?_
      exact e_X6_voids_29 gi_F _ _ h _ _ _ _ _ _ hf
