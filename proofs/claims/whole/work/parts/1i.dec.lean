/-! X6_ask AdmiralGuineaModel.ask(I)I -/
def f_X6_ask_120 (h : gi_H) (k_21 : Nat → Int32 → Int32 → Int32 → Int32 → Option Int32) (k_30 : Nat → Int32 → Int32 → Int32 → Int32 → Int32 → Option Int32) (k_43 : Nat → Int32 → Int32 → Int32 → Int32 → Int32 → Int32 → Int32 → Option Int32) (x0 : Nat) (x1 : Int32) (x2 : Int32) (x3 : Int32) (x4 : Int32) (x5 : Int32) (x6 : Int32) (x7 : Int32) (x8 : Int32) : Option Int32 :=
  if x8 ≤ x6 then k_43 x0 x1 x2 x3 x4 x5 x6 (x7 + 1)
  else k_43 x0 x1 x2 x3 x4 x5 x8 (x7 + 1)
set_option maxRecDepth 20000 in
set_option maxHeartbeats 2000000 in
theorem e_X6_ask_120 (h : gi_H) (k_21 : Nat → Int32 → Int32 → Int32 → Int32 → Option Int32) (hk_21 : ∀ (g5 : Option Value) (g6 : Option Value) (g7 : Option Value) (g8 : Option Value) (g9 : Option Value) (x0 : Nat) (x1 : Int32) (x2 : Int32) (x3 : Int32) (x4 : Int32) (r : Int32), k_21 x0 x1 x2 x3 x4 = some r → gi_Ev M_X6_ask 21 [some (.ref x0), some (.int x1), some (.int x2), some (.int x3), some (.int x4), g5, g6, g7, g8, g9] [] h (some (.int r), h)) (k_30 : Nat → Int32 → Int32 → Int32 → Int32 → Int32 → Option Int32) (hk_30 : ∀ (g6 : Option Value) (g7 : Option Value) (g8 : Option Value) (g9 : Option Value) (x0 : Nat) (x1 : Int32) (x2 : Int32) (x3 : Int32) (x4 : Int32) (x5 : Int32) (r : Int32), k_30 x0 x1 x2 x3 x4 x5 = some r → gi_Ev M_X6_ask 30 [some (.ref x0), some (.int x1), some (.int x2), some (.int x3), some (.int x4), some (.int x5), g6, g7, g8, g9] [] h (some (.int r), h)) (k_43 : Nat → Int32 → Int32 → Int32 → Int32 → Int32 → Int32 → Int32 → Option Int32) (hk_43 : ∀ (g8 : Option Value) (g9 : Option Value) (x0 : Nat) (x1 : Int32) (x2 : Int32) (x3 : Int32) (x4 : Int32) (x5 : Int32) (x6 : Int32) (x7 : Int32) (r : Int32), k_43 x0 x1 x2 x3 x4 x5 x6 x7 = some r → gi_Ev M_X6_ask 43 [some (.ref x0), some (.int x1), some (.int x2), some (.int x3), some (.int x4), some (.int x5), some (.int x6), some (.int x7), g8, g9] [] h (some (.int r), h)) (g9 : Option Value) (x0 : Nat) (x1 : Int32) (x2 : Int32) (x3 : Int32) (x4 : Int32) (x5 : Int32) (x6 : Int32) (x7 : Int32) (x8 : Int32) (r : Int32) (hf : f_X6_ask_120 h k_21 k_30 k_43 x0 x1 x2 x3 x4 x5 x6 x7 x8 = some r) : gi_Ev M_X6_ask 120 [some (.ref x0), some (.int x1), some (.int x2), some (.int x3), some (.int x4), some (.int x5), some (.int x6), some (.int x7), some (.int x8), g9] [] h (some (.int r), h) := by
  unfold f_X6_ask_120 at hf
  refine gi_EvN 2 (pc' := 124) (lv' := [some (.ref x0), some (.int x1), some (.int x2), some (.int x3), some (.int x4), some (.int x5), some (.int x6), some (.int x7), some (.int x8), g9]) (st' := [.int x6, .int x8]) (h' := h) rfl ?_
  refine gi_Ev_ile rfl (fun c1 => ?_) (fun c1 => ?_)
  · rw [if_pos c1] at hf
    refine gi_EvN 4 (pc' := 43) (lv' := [some (.ref x0), some (.int x1), some (.int x2), some (.int x3), some (.int x4), some (.int x5), some (.int x6), some (.int (x7 + 1)), some (.int x8), g9]) (st' := []) (h' := h) rfl ?_
    exact hk_43 _ _  _  _  _  _  _  _  _  _ _ hf
  · rw [if_neg c1] at hf
    refine gi_EvN 5 (pc' := 43) (lv' := [some (.ref x0), some (.int x1), some (.int x2), some (.int x3), some (.int x4), some (.int x5), some (.int x8), some (.int (x7 + 1)), some (.int x8), g9]) (st' := []) (h' := h) rfl ?_
    exact hk_43 _ _  _  _  _  _  _  _  _  _ _ hf
def f_X6_ask_56 (h : gi_H) (k_21 : Nat → Int32 → Int32 → Int32 → Int32 → Option Int32) (k_30 : Nat → Int32 → Int32 → Int32 → Int32 → Int32 → Option Int32) (k_43 : Nat → Int32 → Int32 → Int32 → Int32 → Int32 → Int32 → Int32 → Option Int32) : Nat → Nat → Int32 → Int32 → Int32 → Int32 → Int32 → Int32 → Int32 → Int32 → Int32 → Option Int32
  | 0, _, _, _, _, _, _, _, _, _, _ => none
  | n + 1, x0, x1, x2, x3, x4, x5, x6, x7, x8, x9 => if 49 ≤ x9 then f_X6_ask_120 h k_21 k_30 k_43 x0 x1 x2 x3 x4 x5 x6 x7 x8
  else if gi_is h x0 6 = true then (f_X6_isWorld h x0 x7).bind fun y2 => if y2 = 0 then f_X6_ask_120 h k_21 k_30 k_43 x0 x1 x2 x3 x4 x5 x6 x7 x8
  else if gi_is h x0 6 = true then (f_X6_isWorld h x0 x9).bind fun y5 => if y5 = 0 then f_X6_ask_56 h k_21 k_30 k_43 n x0 x1 x2 x3 x4 x5 x6 x7 (x8 + 0) (x9 + 1)
  else if gi_is h x0 6 = true then (f_X6_gainsIn h x0 x9 x4 x5).bind fun y8 => if gi_is h x0 6 = true then (f_X6_gainsIn h x0 x7 x4 x5).bind fun y10 => if y8 = y10 then f_X6_ask_56 h k_21 k_30 k_43 n x0 x1 x2 x3 x4 x5 x6 x7 (x8 + 1) (x9 + 1)
  else f_X6_ask_56 h k_21 k_30 k_43 n x0 x1 x2 x3 x4 x5 x6 x7 (x8 + 0) (x9 + 1) else none else none else none else none
set_option maxRecDepth 20000 in
set_option maxHeartbeats 2000000 in
theorem e_X6_ask_56 (h : gi_H) (k_21 : Nat → Int32 → Int32 → Int32 → Int32 → Option Int32) (hk_21 : ∀ (g5 : Option Value) (g6 : Option Value) (g7 : Option Value) (g8 : Option Value) (g9 : Option Value) (x0 : Nat) (x1 : Int32) (x2 : Int32) (x3 : Int32) (x4 : Int32) (r : Int32), k_21 x0 x1 x2 x3 x4 = some r → gi_Ev M_X6_ask 21 [some (.ref x0), some (.int x1), some (.int x2), some (.int x3), some (.int x4), g5, g6, g7, g8, g9] [] h (some (.int r), h)) (k_30 : Nat → Int32 → Int32 → Int32 → Int32 → Int32 → Option Int32) (hk_30 : ∀ (g6 : Option Value) (g7 : Option Value) (g8 : Option Value) (g9 : Option Value) (x0 : Nat) (x1 : Int32) (x2 : Int32) (x3 : Int32) (x4 : Int32) (x5 : Int32) (r : Int32), k_30 x0 x1 x2 x3 x4 x5 = some r → gi_Ev M_X6_ask 30 [some (.ref x0), some (.int x1), some (.int x2), some (.int x3), some (.int x4), some (.int x5), g6, g7, g8, g9] [] h (some (.int r), h)) (k_43 : Nat → Int32 → Int32 → Int32 → Int32 → Int32 → Int32 → Int32 → Option Int32) (hk_43 : ∀ (g8 : Option Value) (g9 : Option Value) (x0 : Nat) (x1 : Int32) (x2 : Int32) (x3 : Int32) (x4 : Int32) (x5 : Int32) (x6 : Int32) (x7 : Int32) (r : Int32), k_43 x0 x1 x2 x3 x4 x5 x6 x7 = some r → gi_Ev M_X6_ask 43 [some (.ref x0), some (.int x1), some (.int x2), some (.int x3), some (.int x4), some (.int x5), some (.int x6), some (.int x7), g8, g9] [] h (some (.int r), h)) : ∀ (n : Nat) (x0 : Nat) (x1 : Int32) (x2 : Int32) (x3 : Int32) (x4 : Int32) (x5 : Int32) (x6 : Int32) (x7 : Int32) (x8 : Int32) (x9 : Int32) (r : Int32), f_X6_ask_56 h k_21 k_30 k_43 n x0 x1 x2 x3 x4 x5 x6 x7 x8 x9 = some r → gi_Ev M_X6_ask 56 [some (.ref x0), some (.int x1), some (.int x2), some (.int x3), some (.int x4), some (.int x5), some (.int x6), some (.int x7), some (.int x8), some (.int x9)] [] h (some (.int r), h) := by
  intro n
  induction n with
  | zero =>
    intro x0 x1 x2 x3 x4 x5 x6 x7 x8 x9 r hf
    unfold f_X6_ask_56 at hf
    cases hf
  | succ n ih =>
    intro x0 x1 x2 x3 x4 x5 x6 x7 x8 x9 r hf
    unfold f_X6_ask_56 at hf
    refine gi_EvN 2 (pc' := 60) (lv' := [some (.ref x0), some (.int x1), some (.int x2), some (.int x3), some (.int x4), some (.int x5), some (.int x6), some (.int x7), some (.int x8), some (.int x9)]) (st' := [.int 49, .int x9]) (h' := h) rfl ?_
    refine gi_Ev_ige rfl (fun c1 => ?_) (fun c1 => ?_)
    · rw [if_pos c1] at hf
      exact e_X6_ask_120 h _ hk_21 _ hk_30 _ hk_43 _ _ _ _ _ _ _ _ _ _ _ hf
    · rw [if_neg c1] at hf
      refine gi_EvN 2 (pc' := 66) (lv' := [some (.ref x0), some (.int x1), some (.int x2), some (.int x3), some (.int x4), some (.int x5), some (.int x6), some (.int x7), some (.int x8), some (.int x9)]) (st' := [.int x7, .ref x0]) (h' := h) rfl ?_
      by_cases c3 : gi_is h x0 6 = true
      rotate_left
      · rw [if_neg c3] at hf; cases hf
      rw [if_pos c3] at hf
      obtain ⟨y2, qy2, hf⟩ := gi_bind hf
      refine gi_EvCV rfl rfl c3 rfl rfl (e_X6_isWorld h _ _ _ qy2) ?_
      show gi_Ev M_X6_ask 69 [some (.ref x0), some (.int x1), some (.int x2), some (.int x3), some (.int x4), some (.int x5), some (.int x6), some (.int x7), some (.int x8), some (.int x9)] [.int y2] h _
      refine gi_Ev_eq rfl (fun c4 => ?_) (fun c4 => ?_)
      · rw [if_pos c4] at hf
        exact e_X6_ask_120 h _ hk_21 _ hk_30 _ hk_43 _ _ _ _ _ _ _ _ _ _ _ hf
      · rw [if_neg c4] at hf
        refine gi_EvN 3 (pc' := 77) (lv' := [some (.ref x0), some (.int x1), some (.int x2), some (.int x3), some (.int x4), some (.int x5), some (.int x6), some (.int x7), some (.int x8), some (.int x9)]) (st' := [.int x9, .ref x0, .int x8]) (h' := h) rfl ?_
        by_cases c6 : gi_is h x0 6 = true
        rotate_left
        · rw [if_neg c6] at hf; cases hf
        rw [if_pos c6] at hf
        obtain ⟨y5, qy5, hf⟩ := gi_bind hf
        refine gi_EvCV rfl rfl c6 rfl rfl (e_X6_isWorld h _ _ _ qy5) ?_
        show gi_Ev M_X6_ask 80 [some (.ref x0), some (.int x1), some (.int x2), some (.int x3), some (.int x4), some (.int x5), some (.int x6), some (.int x7), some (.int x8), some (.int x9)] [.int y5, .int x8] h _
        refine gi_Ev_eq rfl (fun c7 => ?_) (fun c7 => ?_)
        · rw [if_pos c7] at hf
          refine gi_EvN 5 (pc' := 56) (lv' := [some (.ref x0), some (.int x1), some (.int x2), some (.int x3), some (.int x4), some (.int x5), some (.int x6), some (.int x7), some (.int (x8 + 0)), some (.int (x9 + 1))]) (st' := []) (h' := h) rfl ?_
          exact ih   _  _  _  _  _  _  _  _  _  _ _ hf
        · rw [if_neg c7] at hf
          refine gi_EvN 4 (pc' := 90) (lv' := [some (.ref x0), some (.int x1), some (.int x2), some (.int x3), some (.int x4), some (.int x5), some (.int x6), some (.int x7), some (.int x8), some (.int x9)]) (st' := [.int x5, .int x4, .int x9, .ref x0, .int x8]) (h' := h) rfl ?_
          by_cases c9 : gi_is h x0 6 = true
          rotate_left
          · rw [if_neg c9] at hf; cases hf
          rw [if_pos c9] at hf
          obtain ⟨y8, qy8, hf⟩ := gi_bind hf
          refine gi_EvCV rfl rfl c9 rfl rfl (e_X6_gainsIn h _ _ _ _ _ qy8) ?_
          show gi_Ev M_X6_ask 93 [some (.ref x0), some (.int x1), some (.int x2), some (.int x3), some (.int x4), some (.int x5), some (.int x6), some (.int x7), some (.int x8), some (.int x9)] [.int y8, .int x8] h _
          refine gi_EvN 4 (pc' := 100) (lv' := [some (.ref x0), some (.int x1), some (.int x2), some (.int x3), some (.int x4), some (.int x5), some (.int x6), some (.int x7), some (.int x8), some (.int x9)]) (st' := [.int x5, .int x4, .int x7, .ref x0, .int y8, .int x8]) (h' := h) rfl ?_
          by_cases c11 : gi_is h x0 6 = true
          rotate_left
          · rw [if_neg c11] at hf; cases hf
          rw [if_pos c11] at hf
          obtain ⟨y10, qy10, hf⟩ := gi_bind hf
          refine gi_EvCV rfl rfl c11 rfl rfl (e_X6_gainsIn h _ _ _ _ _ qy10) ?_
          show gi_Ev M_X6_ask 103 [some (.ref x0), some (.int x1), some (.int x2), some (.int x3), some (.int x4), some (.int x5), some (.int x6), some (.int x7), some (.int x8), some (.int x9)] [.int y10, .int y8, .int x8] h _
          refine gi_Ev_ine rfl (fun c12 => ?_) (fun c12 => ?_)
          · rw [if_pos c12] at hf
            refine gi_EvN 6 (pc' := 56) (lv' := [some (.ref x0), some (.int x1), some (.int x2), some (.int x3), some (.int x4), some (.int x5), some (.int x6), some (.int x7), some (.int (x8 + 1)), some (.int (x9 + 1))]) (st' := []) (h' := h) rfl ?_
            exact ih   _  _  _  _  _  _  _  _  _  _ _ hf
          · rw [if_neg c12] at hf
            refine gi_EvN 5 (pc' := 56) (lv' := [some (.ref x0), some (.int x1), some (.int x2), some (.int x3), some (.int x4), some (.int x5), some (.int x6), some (.int x7), some (.int (x8 + 0)), some (.int (x9 + 1))]) (st' := []) (h' := h) rfl ?_
            exact ih   _  _  _  _  _  _  _  _  _  _ _ hf
def f_X6_ask_177 (h : gi_H) (k_21 : Nat → Int32 → Int32 → Int32 → Int32 → Option Int32) (k_30 : Nat → Int32 → Int32 → Int32 → Int32 → Int32 → Option Int32) (x0 : Nat) (x1 : Int32) (x3 : Int32) (x4 : Int32) (x5 : Int32) (x6 : Int32) (x7 : Int32) (t0 : Int32) : Option Int32 :=
  if x7 = 0 then k_30 x0 x1 t0 x3 x4 (x5 + 1)
  else k_30 x0 x1 t0 x6 x4 (x5 + 1)
set_option maxRecDepth 20000 in
set_option maxHeartbeats 2000000 in
theorem e_X6_ask_177 (h : gi_H) (k_21 : Nat → Int32 → Int32 → Int32 → Int32 → Option Int32) (hk_21 : ∀ (g5 : Option Value) (g6 : Option Value) (g7 : Option Value) (g8 : Option Value) (g9 : Option Value) (x0 : Nat) (x1 : Int32) (x2 : Int32) (x3 : Int32) (x4 : Int32) (r : Int32), k_21 x0 x1 x2 x3 x4 = some r → gi_Ev M_X6_ask 21 [some (.ref x0), some (.int x1), some (.int x2), some (.int x3), some (.int x4), g5, g6, g7, g8, g9] [] h (some (.int r), h)) (k_30 : Nat → Int32 → Int32 → Int32 → Int32 → Int32 → Option Int32) (hk_30 : ∀ (g6 : Option Value) (g7 : Option Value) (g8 : Option Value) (g9 : Option Value) (x0 : Nat) (x1 : Int32) (x2 : Int32) (x3 : Int32) (x4 : Int32) (x5 : Int32) (r : Int32), k_30 x0 x1 x2 x3 x4 x5 = some r → gi_Ev M_X6_ask 30 [some (.ref x0), some (.int x1), some (.int x2), some (.int x3), some (.int x4), some (.int x5), g6, g7, g8, g9] [] h (some (.int r), h)) (g2 : Option Value) (g8 : Option Value) (g9 : Option Value) (x0 : Nat) (x1 : Int32) (x3 : Int32) (x4 : Int32) (x5 : Int32) (x6 : Int32) (x7 : Int32) (t0 : Int32) (r : Int32) (hf : f_X6_ask_177 h k_21 k_30 x0 x1 x3 x4 x5 x6 x7 t0 = some r) : gi_Ev M_X6_ask 177 [some (.ref x0), some (.int x1), g2, some (.int x3), some (.int x4), some (.int x5), some (.int x6), some (.int x7), g8, g9] [.int t0] h (some (.int r), h) := by
  unfold f_X6_ask_177 at hf
  refine gi_EvN 2 (pc' := 180) (lv' := [some (.ref x0), some (.int x1), some (.int t0), some (.int x3), some (.int x4), some (.int x5), some (.int x6), some (.int x7), g8, g9]) (st' := [.int x7]) (h' := h) rfl ?_
  refine gi_Ev_eq rfl (fun c1 => ?_) (fun c1 => ?_)
  · rw [if_pos c1] at hf
    refine gi_EvN 4 (pc' := 30) (lv' := [some (.ref x0), some (.int x1), some (.int t0), some (.int x3), some (.int x4), some (.int (x5 + 1)), some (.int x6), some (.int x7), g8, g9]) (st' := []) (h' := h) rfl ?_
    exact hk_30 _ _ _ _  _  _  _  _  _  _ _ hf
  · rw [if_neg c1] at hf
    refine gi_EvN 5 (pc' := 30) (lv' := [some (.ref x0), some (.int x1), some (.int t0), some (.int x6), some (.int x4), some (.int (x5 + 1)), some (.int x6), some (.int x7), g8, g9]) (st' := []) (h' := h) rfl ?_
    exact hk_30 _ _ _ _  _  _  _  _  _  _ _ hf
def f_X6_ask_158 (h : gi_H) (k_21 : Nat → Int32 → Int32 → Int32 → Int32 → Option Int32) (k_30 : Nat → Int32 → Int32 → Int32 → Int32 → Int32 → Option Int32) (x0 : Nat) (x1 : Int32) (x2 : Int32) (x3 : Int32) (x4 : Int32) (x5 : Int32) (x6 : Int32) (t0 : Int32) : Option Int32 :=
  if t0 = 0 then f_X6_ask_177 h k_21 k_30 x0 x1 x3 x4 x5 x6 t0 x2
  else f_X6_ask_177 h k_21 k_30 x0 x1 x3 x4 x5 x6 t0 ((10 * x4) + x5)
set_option maxRecDepth 20000 in
set_option maxHeartbeats 2000000 in
theorem e_X6_ask_158 (h : gi_H) (k_21 : Nat → Int32 → Int32 → Int32 → Int32 → Option Int32) (hk_21 : ∀ (g5 : Option Value) (g6 : Option Value) (g7 : Option Value) (g8 : Option Value) (g9 : Option Value) (x0 : Nat) (x1 : Int32) (x2 : Int32) (x3 : Int32) (x4 : Int32) (r : Int32), k_21 x0 x1 x2 x3 x4 = some r → gi_Ev M_X6_ask 21 [some (.ref x0), some (.int x1), some (.int x2), some (.int x3), some (.int x4), g5, g6, g7, g8, g9] [] h (some (.int r), h)) (k_30 : Nat → Int32 → Int32 → Int32 → Int32 → Int32 → Option Int32) (hk_30 : ∀ (g6 : Option Value) (g7 : Option Value) (g8 : Option Value) (g9 : Option Value) (x0 : Nat) (x1 : Int32) (x2 : Int32) (x3 : Int32) (x4 : Int32) (x5 : Int32) (r : Int32), k_30 x0 x1 x2 x3 x4 x5 = some r → gi_Ev M_X6_ask 30 [some (.ref x0), some (.int x1), some (.int x2), some (.int x3), some (.int x4), some (.int x5), g6, g7, g8, g9] [] h (some (.int r), h)) (g7 : Option Value) (g8 : Option Value) (g9 : Option Value) (x0 : Nat) (x1 : Int32) (x2 : Int32) (x3 : Int32) (x4 : Int32) (x5 : Int32) (x6 : Int32) (t0 : Int32) (r : Int32) (hf : f_X6_ask_158 h k_21 k_30 x0 x1 x2 x3 x4 x5 x6 t0 = some r) : gi_Ev M_X6_ask 158 [some (.ref x0), some (.int x1), some (.int x2), some (.int x3), some (.int x4), some (.int x5), some (.int x6), g7, g8, g9] [.int t0] h (some (.int r), h) := by
  unfold f_X6_ask_158 at hf
  refine gi_EvN 2 (pc' := 162) (lv' := [some (.ref x0), some (.int x1), some (.int x2), some (.int x3), some (.int x4), some (.int x5), some (.int x6), some (.int t0), g8, g9]) (st' := [.int t0]) (h' := h) rfl ?_
  refine gi_Ev_eq rfl (fun c1 => ?_) (fun c1 => ?_)
  · rw [if_pos c1] at hf
    refine gi_EvN 1 (pc' := 177) (lv' := [some (.ref x0), some (.int x1), some (.int x2), some (.int x3), some (.int x4), some (.int x5), some (.int x6), some (.int t0), g8, g9]) (st' := [.int x2]) (h' := h) rfl ?_
    exact e_X6_ask_177 h _ hk_21 _ hk_30 _ _ _ _ _ _ _ _ _ _ _ _ hf
  · rw [if_neg c1] at hf
    refine gi_EvN 6 (pc' := 177) (lv' := [some (.ref x0), some (.int x1), some (.int x2), some (.int x3), some (.int x4), some (.int x5), some (.int x6), some (.int t0), g8, g9]) (st' := [.int ((10 * x4) + x5)]) (h' := h) rfl ?_
    exact e_X6_ask_177 h _ hk_21 _ hk_30 _ _ _ _ _ _ _ _ _ _ _ _ hf
def f_X6_ask_157 (h : gi_H) (k_21 : Nat → Int32 → Int32 → Int32 → Int32 → Option Int32) (k_30 : Nat → Int32 → Int32 → Int32 → Int32 → Int32 → Option Int32) (x0 : Nat) (x1 : Int32) (x2 : Int32) (x3 : Int32) (x4 : Int32) (x5 : Int32) (x6 : Int32) : Option Int32 :=
  f_X6_ask_158 h k_21 k_30 x0 x1 x2 x3 x4 x5 x6 0
set_option maxRecDepth 20000 in
set_option maxHeartbeats 2000000 in
theorem e_X6_ask_157 (h : gi_H) (k_21 : Nat → Int32 → Int32 → Int32 → Int32 → Option Int32) (hk_21 : ∀ (g5 : Option Value) (g6 : Option Value) (g7 : Option Value) (g8 : Option Value) (g9 : Option Value) (x0 : Nat) (x1 : Int32) (x2 : Int32) (x3 : Int32) (x4 : Int32) (r : Int32), k_21 x0 x1 x2 x3 x4 = some r → gi_Ev M_X6_ask 21 [some (.ref x0), some (.int x1), some (.int x2), some (.int x3), some (.int x4), g5, g6, g7, g8, g9] [] h (some (.int r), h)) (k_30 : Nat → Int32 → Int32 → Int32 → Int32 → Int32 → Option Int32) (hk_30 : ∀ (g6 : Option Value) (g7 : Option Value) (g8 : Option Value) (g9 : Option Value) (x0 : Nat) (x1 : Int32) (x2 : Int32) (x3 : Int32) (x4 : Int32) (x5 : Int32) (r : Int32), k_30 x0 x1 x2 x3 x4 x5 = some r → gi_Ev M_X6_ask 30 [some (.ref x0), some (.int x1), some (.int x2), some (.int x3), some (.int x4), some (.int x5), g6, g7, g8, g9] [] h (some (.int r), h)) (g7 : Option Value) (g8 : Option Value) (g9 : Option Value) (x0 : Nat) (x1 : Int32) (x2 : Int32) (x3 : Int32) (x4 : Int32) (x5 : Int32) (x6 : Int32) (r : Int32) (hf : f_X6_ask_157 h k_21 k_30 x0 x1 x2 x3 x4 x5 x6 = some r) : gi_Ev M_X6_ask 157 [some (.ref x0), some (.int x1), some (.int x2), some (.int x3), some (.int x4), some (.int x5), some (.int x6), g7, g8, g9] [] h (some (.int r), h) := by
  unfold f_X6_ask_157 at hf
  refine gi_EvN 1 (pc' := 158) (lv' := [some (.ref x0), some (.int x1), some (.int x2), some (.int x3), some (.int x4), some (.int x5), some (.int x6), g7, g8, g9]) (st' := [.int 0]) (h' := h) rfl ?_
  exact e_X6_ask_158 h _ hk_21 _ hk_30 _ _ _ _ _ _ _ _ _ _ _ _ hf
def f_X6_ask_142 (h : gi_H) (k_21 : Nat → Int32 → Int32 → Int32 → Int32 → Option Int32) (k_30 : Nat → Int32 → Int32 → Int32 → Int32 → Int32 → Option Int32) (x0 : Nat) (x1 : Int32) (x2 : Int32) (x3 : Int32) (x4 : Int32) (x5 : Int32) (x6 : Int32) : Option Int32 :=
  if x6 ≤ 0 then f_X6_ask_157 h k_21 k_30 x0 x1 x2 x3 x4 x5 x6
  else if x3 ≤ x6 then f_X6_ask_157 h k_21 k_30 x0 x1 x2 x3 x4 x5 x6
  else f_X6_ask_158 h k_21 k_30 x0 x1 x2 x3 x4 x5 x6 1
set_option maxRecDepth 20000 in
set_option maxHeartbeats 2000000 in
theorem e_X6_ask_142 (h : gi_H) (k_21 : Nat → Int32 → Int32 → Int32 → Int32 → Option Int32) (hk_21 : ∀ (g5 : Option Value) (g6 : Option Value) (g7 : Option Value) (g8 : Option Value) (g9 : Option Value) (x0 : Nat) (x1 : Int32) (x2 : Int32) (x3 : Int32) (x4 : Int32) (r : Int32), k_21 x0 x1 x2 x3 x4 = some r → gi_Ev M_X6_ask 21 [some (.ref x0), some (.int x1), some (.int x2), some (.int x3), some (.int x4), g5, g6, g7, g8, g9] [] h (some (.int r), h)) (k_30 : Nat → Int32 → Int32 → Int32 → Int32 → Int32 → Option Int32) (hk_30 : ∀ (g6 : Option Value) (g7 : Option Value) (g8 : Option Value) (g9 : Option Value) (x0 : Nat) (x1 : Int32) (x2 : Int32) (x3 : Int32) (x4 : Int32) (x5 : Int32) (r : Int32), k_30 x0 x1 x2 x3 x4 x5 = some r → gi_Ev M_X6_ask 30 [some (.ref x0), some (.int x1), some (.int x2), some (.int x3), some (.int x4), some (.int x5), g6, g7, g8, g9] [] h (some (.int r), h)) (g7 : Option Value) (g8 : Option Value) (g9 : Option Value) (x0 : Nat) (x1 : Int32) (x2 : Int32) (x3 : Int32) (x4 : Int32) (x5 : Int32) (x6 : Int32) (r : Int32) (hf : f_X6_ask_142 h k_21 k_30 x0 x1 x2 x3 x4 x5 x6 = some r) : gi_Ev M_X6_ask 142 [some (.ref x0), some (.int x1), some (.int x2), some (.int x3), some (.int x4), some (.int x5), some (.int x6), g7, g8, g9] [] h (some (.int r), h) := by
  unfold f_X6_ask_142 at hf
  refine gi_EvN 1 (pc' := 144) (lv' := [some (.ref x0), some (.int x1), some (.int x2), some (.int x3), some (.int x4), some (.int x5), some (.int x6), g7, g8, g9]) (st' := [.int x6]) (h' := h) rfl ?_
  refine gi_Ev_le rfl (fun c1 => ?_) (fun c1 => ?_)
  · rw [if_pos c1] at hf
    exact e_X6_ask_157 h _ hk_21 _ hk_30 _ _ _ _ _ _ _ _ _ _ _ hf
  · rw [if_neg c1] at hf
    refine gi_EvN 2 (pc' := 150) (lv' := [some (.ref x0), some (.int x1), some (.int x2), some (.int x3), some (.int x4), some (.int x5), some (.int x6), g7, g8, g9]) (st' := [.int x3, .int x6]) (h' := h) rfl ?_
    refine gi_Ev_ige rfl (fun c2 => ?_) (fun c2 => ?_)
    · rw [if_pos c2] at hf
      exact e_X6_ask_157 h _ hk_21 _ hk_30 _ _ _ _ _ _ _ _ _ _ _ hf
    · rw [if_neg c2] at hf
      refine gi_EvN 2 (pc' := 158) (lv' := [some (.ref x0), some (.int x1), some (.int x2), some (.int x3), some (.int x4), some (.int x5), some (.int x6), g7, g8, g9]) (st' := [.int 1]) (h' := h) rfl ?_
      exact e_X6_ask_158 h _ hk_21 _ hk_30 _ _ _ _ _ _ _ _ _ _ _ _ hf
def f_X6_ask_43 (h : gi_H) (k_21 : Nat → Int32 → Int32 → Int32 → Int32 → Option Int32) (k_30 : Nat → Int32 → Int32 → Int32 → Int32 → Int32 → Option Int32) : Nat → Nat → Int32 → Int32 → Int32 → Int32 → Int32 → Int32 → Int32 → Option Int32
  | 0, _, _, _, _, _, _, _, _ => none
  | n + 1, x0, x1, x2, x3, x4, x5, x6, x7 => if 49 ≤ x7 then f_X6_ask_142 h k_21 k_30 x0 x1 x2 x3 x4 x5 x6
  else f_X6_ask_56 h k_21 k_30 (f_X6_ask_43 h k_21 k_30 n) gi_F x0 x1 x2 x3 x4 x5 x6 x7 0 0
set_option maxRecDepth 20000 in
set_option maxHeartbeats 2000000 in
theorem e_X6_ask_43 (h : gi_H) (k_21 : Nat → Int32 → Int32 → Int32 → Int32 → Option Int32) (hk_21 : ∀ (g5 : Option Value) (g6 : Option Value) (g7 : Option Value) (g8 : Option Value) (g9 : Option Value) (x0 : Nat) (x1 : Int32) (x2 : Int32) (x3 : Int32) (x4 : Int32) (r : Int32), k_21 x0 x1 x2 x3 x4 = some r → gi_Ev M_X6_ask 21 [some (.ref x0), some (.int x1), some (.int x2), some (.int x3), some (.int x4), g5, g6, g7, g8, g9] [] h (some (.int r), h)) (k_30 : Nat → Int32 → Int32 → Int32 → Int32 → Int32 → Option Int32) (hk_30 : ∀ (g6 : Option Value) (g7 : Option Value) (g8 : Option Value) (g9 : Option Value) (x0 : Nat) (x1 : Int32) (x2 : Int32) (x3 : Int32) (x4 : Int32) (x5 : Int32) (r : Int32), k_30 x0 x1 x2 x3 x4 x5 = some r → gi_Ev M_X6_ask 30 [some (.ref x0), some (.int x1), some (.int x2), some (.int x3), some (.int x4), some (.int x5), g6, g7, g8, g9] [] h (some (.int r), h)) : ∀ (n : Nat) (g8 : Option Value) (g9 : Option Value) (x0 : Nat) (x1 : Int32) (x2 : Int32) (x3 : Int32) (x4 : Int32) (x5 : Int32) (x6 : Int32) (x7 : Int32) (r : Int32), f_X6_ask_43 h k_21 k_30 n x0 x1 x2 x3 x4 x5 x6 x7 = some r → gi_Ev M_X6_ask 43 [some (.ref x0), some (.int x1), some (.int x2), some (.int x3), some (.int x4), some (.int x5), some (.int x6), some (.int x7), g8, g9] [] h (some (.int r), h) := by
  intro n
  induction n with
  | zero =>
    intro g8 g9 x0 x1 x2 x3 x4 x5 x6 x7 r hf
    unfold f_X6_ask_43 at hf
    cases hf
  | succ n ih =>
    intro g8 g9 x0 x1 x2 x3 x4 x5 x6 x7 r hf
    unfold f_X6_ask_43 at hf
    refine gi_EvN 2 (pc' := 47) (lv' := [some (.ref x0), some (.int x1), some (.int x2), some (.int x3), some (.int x4), some (.int x5), some (.int x6), some (.int x7), g8, g9]) (st' := [.int 49, .int x7]) (h' := h) rfl ?_
    refine gi_Ev_ige rfl (fun c1 => ?_) (fun c1 => ?_)
    · rw [if_pos c1] at hf
      exact e_X6_ask_142 h _ hk_21 _ hk_30 _ _ _ _ _ _ _ _ _ _ _ hf
    · rw [if_neg c1] at hf
      refine gi_EvN 4 (pc' := 56) (lv' := [some (.ref x0), some (.int x1), some (.int x2), some (.int x3), some (.int x4), some (.int x5), some (.int x6), some (.int x7), some (.int 0), some (.int 0)]) (st' := []) (h' := h) rfl ?_
      exact e_X6_ask_56 h _ hk_21 _ hk_30 _ ih gi_F _ _ _ _ _ _ _ _ _ _ _ hf
def f_X6_ask_30 (h : gi_H) (k_21 : Nat → Int32 → Int32 → Int32 → Int32 → Option Int32) : Nat → Nat → Int32 → Int32 → Int32 → Int32 → Int32 → Option Int32
  | 0, _, _, _, _, _, _ => none
  | n + 1, x0, x1, x2, x3, x4, x5 => if 6 ≤ x5 then k_21 x0 x1 x2 x3 (x4 + 1)
  else f_X6_ask_43 h k_21 (f_X6_ask_30 h k_21 n) gi_F x0 x1 x2 x3 x4 x5 0 0
set_option maxRecDepth 20000 in
set_option maxHeartbeats 2000000 in
theorem e_X6_ask_30 (h : gi_H) (k_21 : Nat → Int32 → Int32 → Int32 → Int32 → Option Int32) (hk_21 : ∀ (g5 : Option Value) (g6 : Option Value) (g7 : Option Value) (g8 : Option Value) (g9 : Option Value) (x0 : Nat) (x1 : Int32) (x2 : Int32) (x3 : Int32) (x4 : Int32) (r : Int32), k_21 x0 x1 x2 x3 x4 = some r → gi_Ev M_X6_ask 21 [some (.ref x0), some (.int x1), some (.int x2), some (.int x3), some (.int x4), g5, g6, g7, g8, g9] [] h (some (.int r), h)) : ∀ (n : Nat) (g6 : Option Value) (g7 : Option Value) (g8 : Option Value) (g9 : Option Value) (x0 : Nat) (x1 : Int32) (x2 : Int32) (x3 : Int32) (x4 : Int32) (x5 : Int32) (r : Int32), f_X6_ask_30 h k_21 n x0 x1 x2 x3 x4 x5 = some r → gi_Ev M_X6_ask 30 [some (.ref x0), some (.int x1), some (.int x2), some (.int x3), some (.int x4), some (.int x5), g6, g7, g8, g9] [] h (some (.int r), h) := by
  intro n
  induction n with
  | zero =>
    intro g6 g7 g8 g9 x0 x1 x2 x3 x4 x5 r hf
    unfold f_X6_ask_30 at hf
    cases hf
  | succ n ih =>
    intro g6 g7 g8 g9 x0 x1 x2 x3 x4 x5 r hf
    unfold f_X6_ask_30 at hf
    refine gi_EvN 2 (pc' := 34) (lv' := [some (.ref x0), some (.int x1), some (.int x2), some (.int x3), some (.int x4), some (.int x5), g6, g7, g8, g9]) (st' := [.int 6, .int x5]) (h' := h) rfl ?_
    refine gi_Ev_ige rfl (fun c1 => ?_) (fun c1 => ?_)
    · rw [if_pos c1] at hf
      refine gi_EvN 2 (pc' := 21) (lv' := [some (.ref x0), some (.int x1), some (.int x2), some (.int x3), some (.int (x4 + 1)), some (.int x5), g6, g7, g8, g9]) (st' := []) (h' := h) rfl ?_
      exact hk_21 _ _ _ _ _  _  _  _  _  _ _ hf
    · rw [if_neg c1] at hf
      refine gi_EvN 4 (pc' := 43) (lv' := [some (.ref x0), some (.int x1), some (.int x2), some (.int x3), some (.int x4), some (.int x5), some (.int 0), some (.int 0), g8, g9]) (st' := []) (h' := h) rfl ?_
      exact e_X6_ask_43 h _ hk_21 _ ih gi_F _ _ _ _ _ _ _ _ _ _ _ hf
def f_X6_ask_202 (h : gi_H) (x1 : Int32) (x2 : Int32) (x3 : Int32) : Option Int32 :=
  if x2 < 0 then some (x2)
  else if x1 = 0 then some (x2)
  else some (x3)
set_option maxRecDepth 20000 in
set_option maxHeartbeats 2000000 in
theorem e_X6_ask_202 (h : gi_H) (g0 : Option Value) (g4 : Option Value) (g5 : Option Value) (g6 : Option Value) (g7 : Option Value) (g8 : Option Value) (g9 : Option Value) (x1 : Int32) (x2 : Int32) (x3 : Int32) (r : Int32) (hf : f_X6_ask_202 h x1 x2 x3 = some r) : gi_Ev M_X6_ask 202 [g0, some (.int x1), some (.int x2), some (.int x3), g4, g5, g6, g7, g8, g9] [] h (some (.int r), h) := by
  unfold f_X6_ask_202 at hf
  refine gi_EvN 1 (pc' := 203) (lv' := [g0, some (.int x1), some (.int x2), some (.int x3), g4, g5, g6, g7, g8, g9]) (st' := [.int x2]) (h' := h) rfl ?_
  refine gi_Ev_lt rfl (fun c1 => ?_) (fun c1 => ?_)
  · rw [if_pos c1] at hf
    refine gi_EvN 2 (pc' := 215) (lv' := [g0, some (.int x1), some (.int x2), some (.int x3), g4, g5, g6, g7, g8, g9]) (st' := [.int x2]) (h' := h) rfl ?_
    cases hf
    exact gi_EvR rfl rfl
  · rw [if_neg c1] at hf
    refine gi_EvN 1 (pc' := 207) (lv' := [g0, some (.int x1), some (.int x2), some (.int x3), g4, g5, g6, g7, g8, g9]) (st' := [.int x1]) (h' := h) rfl ?_
    refine gi_Ev_ne rfl (fun c2 => ?_) (fun c2 => ?_)
    · rw [if_pos c2] at hf
      refine gi_EvN 2 (pc' := 215) (lv' := [g0, some (.int x1), some (.int x2), some (.int x3), g4, g5, g6, g7, g8, g9]) (st' := [.int x2]) (h' := h) rfl ?_
      cases hf
      exact gi_EvR rfl rfl
    · rw [if_neg c2] at hf
      refine gi_EvN 1 (pc' := 215) (lv' := [g0, some (.int x1), some (.int x2), some (.int x3), g4, g5, g6, g7, g8, g9]) (st' := [.int x3]) (h' := h) rfl ?_
      cases hf
      exact gi_EvR rfl rfl
def f_X6_ask_21 (h : gi_H) : Nat → Nat → Int32 → Int32 → Int32 → Int32 → Option Int32
  | 0, _, _, _, _, _ => none
  | n + 1, x0, x1, x2, x3, x4 => if 4 ≤ x4 then f_X6_ask_202 h x1 x2 x3
  else f_X6_ask_30 h (f_X6_ask_21 h n) gi_F x0 x1 x2 x3 x4 0
set_option maxRecDepth 20000 in
set_option maxHeartbeats 2000000 in
theorem e_X6_ask_21 (h : gi_H) : ∀ (n : Nat) (g5 : Option Value) (g6 : Option Value) (g7 : Option Value) (g8 : Option Value) (g9 : Option Value) (x0 : Nat) (x1 : Int32) (x2 : Int32) (x3 : Int32) (x4 : Int32) (r : Int32), f_X6_ask_21 h n x0 x1 x2 x3 x4 = some r → gi_Ev M_X6_ask 21 [some (.ref x0), some (.int x1), some (.int x2), some (.int x3), some (.int x4), g5, g6, g7, g8, g9] [] h (some (.int r), h) := by
  intro n
  induction n with
  | zero =>
    intro g5 g6 g7 g8 g9 x0 x1 x2 x3 x4 r hf
    unfold f_X6_ask_21 at hf
    cases hf
  | succ n ih =>
    intro g5 g6 g7 g8 g9 x0 x1 x2 x3 x4 r hf
    unfold f_X6_ask_21 at hf
    refine gi_EvN 2 (pc' := 24) (lv' := [some (.ref x0), some (.int x1), some (.int x2), some (.int x3), some (.int x4), g5, g6, g7, g8, g9]) (st' := [.int 4, .int x4]) (h' := h) rfl ?_
    refine gi_Ev_ige rfl (fun c1 => ?_) (fun c1 => ?_)
    · rw [if_pos c1] at hf
      exact e_X6_ask_202 h _ _ _ _ _ _ _ _ _ _ _ hf
    · rw [if_neg c1] at hf
      refine gi_EvN 2 (pc' := 30) (lv' := [some (.ref x0), some (.int x1), some (.int x2), some (.int x3), some (.int x4), some (.int 0), g6, g7, g8, g9]) (st' := []) (h' := h) rfl ?_
      exact e_X6_ask_30 h _ ih gi_F _ _ _ _ _ _ _ _ _ _ _ hf
def f_X6_ask (h : gi_H) (x0 : Nat) (x1 : Int32) : Option Int32 :=
  (f_X6_in x1 0 1).bind fun y1 => if y1 = 0 then some ((-2))
  else f_X6_ask_21 h gi_F x0 x1 (-6) 1000000 0
set_option maxRecDepth 20000 in
set_option maxHeartbeats 2000000 in
theorem e_X6_ask (h : gi_H) (x0 : Nat) (x1 : Int32) (r : Int32) (hf : f_X6_ask h x0 x1 = some r) : gi_Ev M_X6_ask 0 [some (.ref x0), some (.int x1), none, none, none, none, none, none, none, none] [] h (some (.int r), h) := by
  unfold f_X6_ask at hf
  refine gi_EvN 3 (pc' := 3) (lv' := [some (.ref x0), some (.int x1), none, none, none, none, none, none, none, none]) (st' := [.int 1, .int 0, .int x1]) (h' := h) rfl ?_
  obtain ⟨y1, qy1, hf⟩ := gi_bind hf
  refine gi_EvCS rfl rfl rfl rfl rfl (e_X6_in h _ _ _ _ qy1) ?_
  show gi_Ev M_X6_ask 6 [some (.ref x0), some (.int x1), none, none, none, none, none, none, none, none] [.int y1] h _
  refine gi_Ev_ne rfl (fun c2 => ?_) (fun c2 => ?_)
  · rw [if_pos c2] at hf
    refine gi_EvN 1 (pc' := 11) (lv' := [some (.ref x0), some (.int x1), none, none, none, none, none, none, none, none]) (st' := [.int (-2)]) (h' := h) rfl ?_
    cases hf
    exact gi_EvR rfl rfl
  · rw [if_neg c2] at hf
    refine gi_EvN 6 (pc' := 21) (lv' := [some (.ref x0), some (.int x1), some (.int (-6)), some (.int 1000000), some (.int 0), none, none, none, none, none]) (st' := []) (h' := h) rfl ?_
    exact e_X6_ask_21 h gi_F _ _ _ _ _ _ _ _ _ _ _ hf
/-! X6_pass AdmiralGuineaModel.pass(I)I -/
def f_X6_pass_129 (k_62 : gi_H → Nat → Int32 → Int32 → Option (Int32 × gi_H)) (k_94 : gi_H → Nat → Int32 → Int32 → Int32 → Int32 → Int32 → Option (Int32 × gi_H)) (h : gi_H) (x0 : Nat) (x3 : Int32) (x4 : Int32) (x6 : Int32) (x7 : Int32) (t0 : Int32) : Option (Int32 × gi_H) :=
  (gi_fR h x0 6 13).bind fun y1 => (gi_ai h y1 0 x7).bind fun y2 => (gi_fR h x0 6 0).bind fun y3 => (gi_ai h y3 0 (16 + (4 * x4))).bind fun y4 => if y2 = y4 then k_94 h x0 x3 x4 t0 (x6 + 1) (x7 + 1)
  else k_94 h x0 x3 x4 t0 (x6 + 0) (x7 + 1)
set_option maxRecDepth 20000 in
set_option maxHeartbeats 2000000 in
theorem e_X6_pass_129 (k_62 : gi_H → Nat → Int32 → Int32 → Option (Int32 × gi_H)) (hk_62 : ∀ (g1 : Option Value) (g2 : Option Value) (g5 : Option Value) (g6 : Option Value) (g7 : Option Value) (h : gi_H) (x0 : Nat) (x3 : Int32) (x4 : Int32) (r : (Int32 × gi_H)), k_62 h x0 x3 x4 = some r → gi_Ev M_X6_pass 62 [some (.ref x0), g1, g2, some (.int x3), some (.int x4), g5, g6, g7] [] h (some (.int r.1), r.2)) (k_94 : gi_H → Nat → Int32 → Int32 → Int32 → Int32 → Int32 → Option (Int32 × gi_H)) (hk_94 : ∀ (g1 : Option Value) (g2 : Option Value) (h : gi_H) (x0 : Nat) (x3 : Int32) (x4 : Int32) (x5 : Int32) (x6 : Int32) (x7 : Int32) (r : (Int32 × gi_H)), k_94 h x0 x3 x4 x5 x6 x7 = some r → gi_Ev M_X6_pass 94 [some (.ref x0), g1, g2, some (.int x3), some (.int x4), some (.int x5), some (.int x6), some (.int x7)] [] h (some (.int r.1), r.2)) (g1 : Option Value) (g2 : Option Value) (g5 : Option Value) (h : gi_H) (x0 : Nat) (x3 : Int32) (x4 : Int32) (x6 : Int32) (x7 : Int32) (t0 : Int32) (r : (Int32 × gi_H)) (hf : f_X6_pass_129 k_62 k_94 h x0 x3 x4 x6 x7 t0 = some r) : gi_Ev M_X6_pass 129 [some (.ref x0), g1, g2, some (.int x3), some (.int x4), g5, some (.int x6), some (.int x7)] [.int t0] h (some (.int r.1), r.2) := by
  unfold f_X6_pass_129 at hf
  refine gi_EvN 3 (pc' := 134) (lv' := [some (.ref x0), g1, g2, some (.int x3), some (.int x4), some (.int t0), some (.int x6), some (.int x7)]) (st' := [.ref x0, .int x6]) (h' := h) rfl ?_
  obtain ⟨y1, qy1, hf⟩ := gi_bind hf
  refine gi_EvF rfl (gi_fR_inv qy1) ?_
  refine gi_EvN 1 (pc' := 139) (lv' := [some (.ref x0), g1, g2, some (.int x3), some (.int x4), some (.int t0), some (.int x6), some (.int x7)]) (st' := [.int x7, .ref y1, .int x6]) (h' := h) rfl ?_
  obtain ⟨y2, qy2, hf⟩ := gi_bind hf
  refine gi_EvAi rfl qy2 ?_
  refine gi_EvN 1 (pc' := 141) (lv' := [some (.ref x0), g1, g2, some (.int x3), some (.int x4), some (.int t0), some (.int x6), some (.int x7)]) (st' := [.ref x0, .int y2, .int x6]) (h' := h) rfl ?_
  obtain ⟨y3, qy3, hf⟩ := gi_bind hf
  refine gi_EvF rfl (gi_fR_inv qy3) ?_
  refine gi_EvN 5 (pc' := 151) (lv' := [some (.ref x0), g1, g2, some (.int x3), some (.int x4), some (.int t0), some (.int x6), some (.int x7)]) (st' := [.int (16 + (4 * x4)), .ref y3, .int y2, .int x6]) (h' := h) rfl ?_
  obtain ⟨y4, qy4, hf⟩ := gi_bind hf
  refine gi_EvAi rfl qy4 ?_
  refine gi_Ev_ine rfl (fun c5 => ?_) (fun c5 => ?_)
  · rw [if_pos c5] at hf
    refine gi_EvN 6 (pc' := 94) (lv' := [some (.ref x0), g1, g2, some (.int x3), some (.int x4), some (.int t0), some (.int (x6 + 1)), some (.int (x7 + 1))]) (st' := []) (h' := h) rfl ?_
    exact hk_94 _ _ _ _  _  _  _  _  _ _ hf
  · rw [if_neg c5] at hf
    refine gi_EvN 5 (pc' := 94) (lv' := [some (.ref x0), g1, g2, some (.int x3), some (.int x4), some (.int t0), some (.int (x6 + 0)), some (.int (x7 + 1))]) (st' := []) (h' := h) rfl ?_
    exact hk_94 _ _ _ _  _  _  _  _  _ _ hf
def f_X6_pass_169 (k_62 : gi_H → Nat → Int32 → Int32 → Option (Int32 × gi_H)) (h : gi_H) (x0 : Nat) (x3 : Int32) (x4 : Int32) (x5 : Int32) (x6 : Int32) : Option (Int32 × gi_H) :=
  if x6 = 1 then (gi_fR h x0 6 0).bind fun y2 => (gi_ai h y2 0 (15 + (4 * x4))).bind fun y3 => if x5 = y3 then k_62 h x0 (x3 + 0) (x4 + 1)
  else k_62 h x0 (x3 + 1) (x4 + 1)
  else some ((-6), h)
set_option maxRecDepth 20000 in
set_option maxHeartbeats 2000000 in
theorem e_X6_pass_169 (k_62 : gi_H → Nat → Int32 → Int32 → Option (Int32 × gi_H)) (hk_62 : ∀ (g1 : Option Value) (g2 : Option Value) (g5 : Option Value) (g6 : Option Value) (g7 : Option Value) (h : gi_H) (x0 : Nat) (x3 : Int32) (x4 : Int32) (r : (Int32 × gi_H)), k_62 h x0 x3 x4 = some r → gi_Ev M_X6_pass 62 [some (.ref x0), g1, g2, some (.int x3), some (.int x4), g5, g6, g7] [] h (some (.int r.1), r.2)) (g1 : Option Value) (g2 : Option Value) (g7 : Option Value) (h : gi_H) (x0 : Nat) (x3 : Int32) (x4 : Int32) (x5 : Int32) (x6 : Int32) (r : (Int32 × gi_H)) (hf : f_X6_pass_169 k_62 h x0 x3 x4 x5 x6 = some r) : gi_Ev M_X6_pass 169 [some (.ref x0), g1, g2, some (.int x3), some (.int x4), some (.int x5), some (.int x6), g7] [] h (some (.int r.1), r.2) := by
  unfold f_X6_pass_169 at hf
  refine gi_EvN 2 (pc' := 172) (lv' := [some (.ref x0), g1, g2, some (.int x3), some (.int x4), some (.int x5), some (.int x6), g7]) (st' := [.int 1, .int x6]) (h' := h) rfl ?_
  refine gi_Ev_ieq rfl (fun c1 => ?_) (fun c1 => ?_)
  · rw [if_pos c1] at hf
    refine gi_EvN 3 (pc' := 182) (lv' := [some (.ref x0), g1, g2, some (.int x3), some (.int x4), some (.int x5), some (.int x6), g7]) (st' := [.ref x0, .int x5, .int x3]) (h' := h) rfl ?_
    obtain ⟨y2, qy2, hf⟩ := gi_bind hf
    refine gi_EvF rfl (gi_fR_inv qy2) ?_
    refine gi_EvN 5 (pc' := 192) (lv' := [some (.ref x0), g1, g2, some (.int x3), some (.int x4), some (.int x5), some (.int x6), g7]) (st' := [.int (15 + (4 * x4)), .ref y2, .int x5, .int x3]) (h' := h) rfl ?_
    obtain ⟨y3, qy3, hf⟩ := gi_bind hf
    refine gi_EvAi rfl qy3 ?_
    refine gi_Ev_ieq rfl (fun c4 => ?_) (fun c4 => ?_)
    · rw [if_pos c4] at hf
      refine gi_EvN 5 (pc' := 62) (lv' := [some (.ref x0), g1, (gi_cl g2), some (.int (x3 + 0)), some (.int (x4 + 1)), some (.int x5), some (.int x6), g7]) (st' := []) (h' := h) rfl ?_
      exact hk_62 _ _ _ _ _ _ _  _  _ _ hf
    · rw [if_neg c4] at hf
      refine gi_EvN 6 (pc' := 62) (lv' := [some (.ref x0), g1, (gi_cl g2), some (.int (x3 + 1)), some (.int (x4 + 1)), some (.int x5), some (.int x6), g7]) (st' := []) (h' := h) rfl ?_
      exact hk_62 _ _ _ _ _ _ _  _  _ _ hf
  · rw [if_neg c1] at hf
    refine gi_EvN 1 (pc' := 177) (lv' := [some (.ref x0), g1, g2, some (.int x3), some (.int x4), some (.int x5), some (.int x6), g7]) (st' := [.int (-6)]) (h' := h) rfl ?_
    cases hf
    exact gi_EvR rfl rfl
def f_X6_pass_94 (k_62 : gi_H → Nat → Int32 → Int32 → Option (Int32 × gi_H)) : Nat → gi_H → Nat → Int32 → Int32 → Int32 → Int32 → Int32 → Option (Int32 × gi_H)
  | 0, _, _, _, _, _, _, _ => none
  | n + 1, h, x0, x3, x4, x5, x6, x7 => if 4 ≤ x7 then f_X6_pass_169 k_62 h x0 x3 x4 x5 x6
  else (gi_fR h x0 6 13).bind fun y2 => (gi_ai h y2 0 x7).bind fun y3 => (gi_fR h x0 6 0).bind fun y4 => (gi_ai h y4 0 (16 + (4 * x4))).bind fun y5 => if y3 = y5 then f_X6_pass_129 k_62 (f_X6_pass_94 k_62 n) h x0 x3 x4 x6 x7 x7
  else f_X6_pass_129 k_62 (f_X6_pass_94 k_62 n) h x0 x3 x4 x6 x7 x5
set_option maxRecDepth 20000 in
set_option maxHeartbeats 2000000 in
theorem e_X6_pass_94 (k_62 : gi_H → Nat → Int32 → Int32 → Option (Int32 × gi_H)) (hk_62 : ∀ (g1 : Option Value) (g2 : Option Value) (g5 : Option Value) (g6 : Option Value) (g7 : Option Value) (h : gi_H) (x0 : Nat) (x3 : Int32) (x4 : Int32) (r : (Int32 × gi_H)), k_62 h x0 x3 x4 = some r → gi_Ev M_X6_pass 62 [some (.ref x0), g1, g2, some (.int x3), some (.int x4), g5, g6, g7] [] h (some (.int r.1), r.2)) : ∀ (n : Nat) (g1 : Option Value) (g2 : Option Value) (h : gi_H) (x0 : Nat) (x3 : Int32) (x4 : Int32) (x5 : Int32) (x6 : Int32) (x7 : Int32) (r : (Int32 × gi_H)), f_X6_pass_94 k_62 n h x0 x3 x4 x5 x6 x7 = some r → gi_Ev M_X6_pass 94 [some (.ref x0), g1, g2, some (.int x3), some (.int x4), some (.int x5), some (.int x6), some (.int x7)] [] h (some (.int r.1), r.2) := by
  intro n
  induction n with
  | zero =>
    intro g1 g2 h x0 x3 x4 x5 x6 x7 r hf
    unfold f_X6_pass_94 at hf
    cases hf
  | succ n ih =>
    intro g1 g2 h x0 x3 x4 x5 x6 x7 r hf
    unfold f_X6_pass_94 at hf
    refine gi_EvN 2 (pc' := 97) (lv' := [some (.ref x0), g1, g2, some (.int x3), some (.int x4), some (.int x5), some (.int x6), some (.int x7)]) (st' := [.int 4, .int x7]) (h' := h) rfl ?_
    refine gi_Ev_ige rfl (fun c1 => ?_) (fun c1 => ?_)
    · rw [if_pos c1] at hf
      exact e_X6_pass_169 _ hk_62 _ _ _ h _ _ _ _ _ _ hf
    · rw [if_neg c1] at hf
      refine gi_EvN 1 (pc' := 101) (lv' := [some (.ref x0), g1, g2, some (.int x3), some (.int x4), some (.int x5), some (.int x6), some (.int x7)]) (st' := [.ref x0]) (h' := h) rfl ?_
      obtain ⟨y2, qy2, hf⟩ := gi_bind hf
      refine gi_EvF rfl (gi_fR_inv qy2) ?_
      refine gi_EvN 1 (pc' := 106) (lv' := [some (.ref x0), g1, g2, some (.int x3), some (.int x4), some (.int x5), some (.int x6), some (.int x7)]) (st' := [.int x7, .ref y2]) (h' := h) rfl ?_
      obtain ⟨y3, qy3, hf⟩ := gi_bind hf
      refine gi_EvAi rfl qy3 ?_
      refine gi_EvN 1 (pc' := 108) (lv' := [some (.ref x0), g1, g2, some (.int x3), some (.int x4), some (.int x5), some (.int x6), some (.int x7)]) (st' := [.ref x0, .int y3]) (h' := h) rfl ?_
      obtain ⟨y4, qy4, hf⟩ := gi_bind hf
      refine gi_EvF rfl (gi_fR_inv qy4) ?_
      refine gi_EvN 5 (pc' := 118) (lv' := [some (.ref x0), g1, g2, some (.int x3), some (.int x4), some (.int x5), some (.int x6), some (.int x7)]) (st' := [.int (16 + (4 * x4)), .ref y4, .int y3]) (h' := h) rfl ?_
      obtain ⟨y5, qy5, hf⟩ := gi_bind hf
      refine gi_EvAi rfl qy5 ?_
      refine gi_Ev_ine rfl (fun c6 => ?_) (fun c6 => ?_)
      · rw [if_pos c6] at hf
        refine gi_EvN 2 (pc' := 129) (lv' := [some (.ref x0), g1, g2, some (.int x3), some (.int x4), some (.int x5), some (.int x6), some (.int x7)]) (st' := [.int x7]) (h' := h) rfl ?_
        exact e_X6_pass_129 _ hk_62 _ ih _ _ _ h _ _ _ _ _ _ _ hf
      · rw [if_neg c6] at hf
        refine gi_EvN 1 (pc' := 129) (lv' := [some (.ref x0), g1, g2, some (.int x3), some (.int x4), some (.int x5), some (.int x6), some (.int x7)]) (st' := [.int x5]) (h' := h) rfl ?_
        exact e_X6_pass_129 _ hk_62 _ ih _ _ _ h _ _ _ _ _ _ _ hf
def f_X6_pass_62 : Nat → gi_H → Nat → Int32 → Int32 → Option (Int32 × gi_H)
  | 0, _, _, _, _ => none
  | n + 1, h, x0, x3, x4 => if 12 ≤ x4 then some (x3, h)
  else (gi_fR h x0 6 0).bind fun y2 => (gi_ai h y2 0 14).bind fun y3 => (f_X6_has y3 x4).bind fun y4 => if y4 = 0 then f_X6_pass_62 n h x0 x3 (x4 + 1)
  else f_X6_pass_94 (f_X6_pass_62 n) gi_F h x0 x3 x4 (-6) 0 0
set_option maxRecDepth 20000 in
set_option maxHeartbeats 2000000 in
theorem e_X6_pass_62 : ∀ (n : Nat) (g1 : Option Value) (g2 : Option Value) (g5 : Option Value) (g6 : Option Value) (g7 : Option Value) (h : gi_H) (x0 : Nat) (x3 : Int32) (x4 : Int32) (r : (Int32 × gi_H)), f_X6_pass_62 n h x0 x3 x4 = some r → gi_Ev M_X6_pass 62 [some (.ref x0), g1, g2, some (.int x3), some (.int x4), g5, g6, g7] [] h (some (.int r.1), r.2) := by
  intro n
  induction n with
  | zero =>
    intro g1 g2 g5 g6 g7 h x0 x3 x4 r hf
    unfold f_X6_pass_62 at hf
    cases hf
  | succ n ih =>
    intro g1 g2 g5 g6 g7 h x0 x3 x4 r hf
    unfold f_X6_pass_62 at hf
    refine gi_EvN 2 (pc' := 66) (lv' := [some (.ref x0), g1, g2, some (.int x3), some (.int x4), g5, g6, g7]) (st' := [.int 12, .int x4]) (h' := h) rfl ?_
    refine gi_Ev_ige rfl (fun c1 => ?_) (fun c1 => ?_)
    · rw [if_pos c1] at hf
      refine gi_EvN 1 (pc' := 210) (lv' := [some (.ref x0), g1, g2, some (.int x3), some (.int x4), g5, g6, g7]) (st' := [.int x3]) (h' := h) rfl ?_
      cases hf
      exact gi_EvR rfl rfl
    · rw [if_neg c1] at hf
      refine gi_EvN 1 (pc' := 70) (lv' := [some (.ref x0), g1, g2, some (.int x3), some (.int x4), g5, g6, g7]) (st' := [.ref x0]) (h' := h) rfl ?_
      obtain ⟨y2, qy2, hf⟩ := gi_bind hf
      refine gi_EvF rfl (gi_fR_inv qy2) ?_
      refine gi_EvN 1 (pc' := 75) (lv' := [some (.ref x0), g1, g2, some (.int x3), some (.int x4), g5, g6, g7]) (st' := [.int 14, .ref y2]) (h' := h) rfl ?_
      obtain ⟨y3, qy3, hf⟩ := gi_bind hf
      refine gi_EvAi rfl qy3 ?_
      refine gi_EvN 1 (pc' := 78) (lv' := [some (.ref x0), g1, g2, some (.int x3), some (.int x4), g5, g6, g7]) (st' := [.int x4, .int y3]) (h' := h) rfl ?_
      obtain ⟨y4, qy4, hf⟩ := gi_bind hf
      refine gi_EvCS rfl rfl rfl rfl rfl (e_X6_has h _ _ _ qy4) ?_
      show gi_Ev M_X6_pass 81 [some (.ref x0), g1, g2, some (.int x3), some (.int x4), g5, g6, g7] [.int y4] h _
      refine gi_Ev_eq rfl (fun c5 => ?_) (fun c5 => ?_)
      · rw [if_pos c5] at hf
        refine gi_EvN 2 (pc' := 62) (lv' := [some (.ref x0), g1, g2, some (.int x3), some (.int (x4 + 1)), g5, g6, g7]) (st' := []) (h' := h) rfl ?_
        exact ih _ _ _ _ _ _ _  _  _ _ hf
      · rw [if_neg c5] at hf
        refine gi_EvN 6 (pc' := 94) (lv' := [some (.ref x0), g1, g2, some (.int x3), some (.int x4), some (.int (-6)), some (.int 0), some (.int 0)]) (st' := []) (h' := h) rfl ?_
        exact e_X6_pass_94 _ ih gi_F _ _ h _ _ _ _ _ _ _ hf
def f_X6_pass_18 : Nat → gi_H → Nat → Int32 → Int32 → Option (Int32 × gi_H)
  | 0, _, _, _, _ => none
  | n + 1, h, x0, x2, x3 => if x3 < 0 then f_X6_pass_62 gi_F h x0 0 0
  else (gi_fR h x0 6 13).bind fun y2 => (gi_pi h y2 0 x3 (x2 - x2 / 10 * 10)).bind fun h3 => (gi_fR h3 x0 6 13).bind fun y4 => (gi_ai h3 y4 0 x3).bind fun y5 => if y5 ≤ 6 then f_X6_pass_18 n h3 x0 (x2 / 10) (x3 + (-1))
  else some ((-2), h3)
set_option maxRecDepth 20000 in
set_option maxHeartbeats 2000000 in
theorem e_X6_pass_18 : ∀ (n : Nat) (g1 : Option Value) (g4 : Option Value) (g5 : Option Value) (g6 : Option Value) (g7 : Option Value) (h : gi_H) (x0 : Nat) (x2 : Int32) (x3 : Int32) (r : (Int32 × gi_H)), f_X6_pass_18 n h x0 x2 x3 = some r → gi_Ev M_X6_pass 18 [some (.ref x0), g1, some (.int x2), some (.int x3), g4, g5, g6, g7] [] h (some (.int r.1), r.2) := by
  intro n
  induction n with
  | zero =>
    intro g1 g4 g5 g6 g7 h x0 x2 x3 r hf
    unfold f_X6_pass_18 at hf
    cases hf
  | succ n ih =>
    intro g1 g4 g5 g6 g7 h x0 x2 x3 r hf
    unfold f_X6_pass_18 at hf
    refine gi_EvN 1 (pc' := 19) (lv' := [some (.ref x0), g1, some (.int x2), some (.int x3), g4, g5, g6, g7]) (st' := [.int x3]) (h' := h) rfl ?_
    refine gi_Ev_lt rfl (fun c1 => ?_) (fun c1 => ?_)
    · rw [if_pos c1] at hf
      refine gi_EvN 4 (pc' := 62) (lv' := [some (.ref x0), g1, some (.int x2), some (.int 0), some (.int 0), g5, g6, g7]) (st' := []) (h' := h) rfl ?_
      exact e_X6_pass_62 gi_F _ _ _ _ _ h _ _ _ _ hf
    · rw [if_neg c1] at hf
      refine gi_EvN 1 (pc' := 23) (lv' := [some (.ref x0), g1, some (.int x2), some (.int x3), g4, g5, g6, g7]) (st' := [.ref x0]) (h' := h) rfl ?_
      obtain ⟨y2, qy2, hf⟩ := gi_bind hf
      refine gi_EvF rfl (gi_fR_inv qy2) ?_
      refine gi_EvN 3 (pc' := 30) (lv' := [some (.ref x0), g1, some (.int x2), some (.int x3), g4, g5, g6, g7]) (st' := [.int 10, .int x2, .int x3, .ref y2]) (h' := h) rfl ?_
      refine gi_EvRi rfl (by decide) ?_
      obtain ⟨h3, qh3, hf⟩ := gi_bind hf
      refine gi_EvPi rfl qh3 ?_
      refine gi_EvN 2 (pc' := 35) (lv' := [some (.ref x0), g1, some (.int x2), some (.int x3), g4, g5, g6, g7]) (st' := [.int 10, .int x2]) (h' := h3) rfl ?_
      refine gi_EvDi rfl (by decide) ?_
      refine gi_EvN 2 (pc' := 38) (lv' := [some (.ref x0), (gi_cl g1), some (.int (x2 / 10)), some (.int x3), g4, g5, g6, g7]) (st' := [.ref x0]) (h' := h3) rfl ?_
      obtain ⟨y4, qy4, hf⟩ := gi_bind hf
      refine gi_EvF rfl (gi_fR_inv qy4) ?_
      refine gi_EvN 1 (pc' := 42) (lv' := [some (.ref x0), (gi_cl g1), some (.int (x2 / 10)), some (.int x3), g4, g5, g6, g7]) (st' := [.int x3, .ref y4]) (h' := h3) rfl ?_
      obtain ⟨y5, qy5, hf⟩ := gi_bind hf
      refine gi_EvAi rfl qy5 ?_
      refine gi_EvN 1 (pc' := 45) (lv' := [some (.ref x0), (gi_cl g1), some (.int (x2 / 10)), some (.int x3), g4, g5, g6, g7]) (st' := [.int 6, .int y5]) (h' := h3) rfl ?_
      refine gi_Ev_ile rfl (fun c6 => ?_) (fun c6 => ?_)
      · rw [if_pos c6] at hf
        refine gi_EvN 2 (pc' := 18) (lv' := [some (.ref x0), (gi_cl g1), some (.int (x2 / 10)), some (.int (x3 + (-1))), g4, g5, g6, g7]) (st' := []) (h' := h3) rfl ?_
        exact ih _ _ _ _ _ _ _  _  _ _ hf
      · rw [if_neg c6] at hf
        refine gi_EvN 1 (pc' := 50) (lv' := [some (.ref x0), (gi_cl g1), some (.int (x2 / 10)), some (.int x3), g4, g5, g6, g7]) (st' := [.int (-2)]) (h' := h3) rfl ?_
        cases hf
        exact gi_EvR rfl rfl
def f_X6_pass (h : gi_H) (x0 : Nat) (x1 : Int32) : Option (Int32 × gi_H) :=
  (f_X6_in x1 0 9999).bind fun y1 => if y1 = 0 then some ((-2), h)
  else f_X6_pass_18 gi_F h x0 x1 3
set_option maxRecDepth 20000 in
set_option maxHeartbeats 2000000 in
theorem e_X6_pass (h : gi_H) (x0 : Nat) (x1 : Int32) (r : (Int32 × gi_H)) (hf : f_X6_pass h x0 x1 = some r) : gi_Ev M_X6_pass 0 [some (.ref x0), some (.int x1), none, none, none, none, none, none] [] h (some (.int r.1), r.2) := by
  unfold f_X6_pass at hf
  refine gi_EvN 3 (pc' := 5) (lv' := [some (.ref x0), some (.int x1), none, none, none, none, none, none]) (st' := [.int 9999, .int 0, .int x1]) (h' := h) rfl ?_
  obtain ⟨y1, qy1, hf⟩ := gi_bind hf
  refine gi_EvCS rfl rfl rfl rfl rfl (e_X6_in h _ _ _ _ qy1) ?_
  show gi_Ev M_X6_pass 8 [some (.ref x0), some (.int x1), none, none, none, none, none, none] [.int y1] h _
  refine gi_Ev_ne rfl (fun c2 => ?_) (fun c2 => ?_)
  · rw [if_pos c2] at hf
    refine gi_EvN 1 (pc' := 13) (lv' := [some (.ref x0), some (.int x1), none, none, none, none, none, none]) (st' := [.int (-2)]) (h' := h) rfl ?_
    cases hf
    exact gi_EvR rfl rfl
  · rw [if_neg c2] at hf
    refine gi_EvN 4 (pc' := 18) (lv' := [some (.ref x0), some (.int x1), some (.int x1), some (.int 3), none, none, none, none]) (st' := []) (h' := h) rfl ?_
    exact e_X6_pass_18 gi_F _ _ _ _ _ h _ _ _ _ hf
/-! X6_bets AdmiralGuineaModel.bets(IIII)J -/
def f_X6_bets_77 (x1 : Int32) (x2 : Int32) (x3 : Int32) (x4 : Int32) (x5 : Int64) : Option Int64 :=
  (f_X6_power (Int32.toInt64 x3) x2).bind fun y1 => (f_X6_power (10 - (Int32.toInt64 x3)) (x1 - x2)).bind fun y2 => (f_X6_power 10 x1).bind fun y3 => (f_X6_part ((x5 * y1) * y2) y3 x4).bind fun y4 => some (y4)
set_option maxRecDepth 20000 in
set_option maxHeartbeats 2000000 in
theorem e_X6_bets_77 (h : gi_H) (g0 : Option Value) (g6 : Option Value) (g7 : Option Value) (x1 : Int32) (x2 : Int32) (x3 : Int32) (x4 : Int32) (x5 : Int64) (r : Int64) (hf : f_X6_bets_77 x1 x2 x3 x4 x5 = some r) : gi_Ev M_X6_bets 77 [g0, some (.int x1), some (.int x2), some (.int x3), some (.int x4), some (.long x5), g6, g7] [] h (some (.long r), h) := by
  unfold f_X6_bets_77 at hf
  refine gi_EvN 4 (pc' := 82) (lv' := [g0, some (.int x1), some (.int x2), some (.int x3), some (.int x4), some (.long x5), g6, g7]) (st' := [.int x2, .long (Int32.toInt64 x3), .long x5]) (h' := h) rfl ?_
  obtain ⟨y1, qy1, hf⟩ := gi_bind hf
  refine gi_EvCS rfl rfl rfl rfl rfl (e_X6_power h _ _ _ qy1) ?_
  show gi_Ev M_X6_bets 85 [g0, some (.int x1), some (.int x2), some (.int x3), some (.int x4), some (.long x5), g6, g7] [.long y1, .long x5] h _
  refine gi_EvN 8 (pc' := 95) (lv' := [g0, some (.int x1), some (.int x2), some (.int x3), some (.int x4), some (.long x5), g6, g7]) (st' := [.int (x1 - x2), .long (10 - (Int32.toInt64 x3)), .long (x5 * y1)]) (h' := h) rfl ?_
  obtain ⟨y2, qy2, hf⟩ := gi_bind hf
  refine gi_EvCS rfl rfl rfl rfl rfl (e_X6_power h _ _ _ qy2) ?_
  show gi_Ev M_X6_bets 98 [g0, some (.int x1), some (.int x2), some (.int x3), some (.int x4), some (.long x5), g6, g7] [.long y2, .long (x5 * y1)] h _
  refine gi_EvN 3 (pc' := 103) (lv' := [g0, some (.int x1), some (.int x2), some (.int x3), some (.int x4), some (.long x5), g6, g7]) (st' := [.int x1, .long 10, .long ((x5 * y1) * y2)]) (h' := h) rfl ?_
  obtain ⟨y3, qy3, hf⟩ := gi_bind hf
  refine gi_EvCS rfl rfl rfl rfl rfl (e_X6_power h _ _ _ qy3) ?_
  show gi_Ev M_X6_bets 106 [g0, some (.int x1), some (.int x2), some (.int x3), some (.int x4), some (.long x5), g6, g7] [.long y3, .long ((x5 * y1) * y2)] h _
  refine gi_EvN 1 (pc' := 108) (lv' := [g0, some (.int x1), some (.int x2), some (.int x3), some (.int x4), some (.long x5), g6, g7]) (st' := [.int x4, .long y3, .long ((x5 * y1) * y2)]) (h' := h) rfl ?_
  obtain ⟨y4, qy4, hf⟩ := gi_bind hf
  refine gi_EvCS rfl rfl rfl rfl rfl (e_X6_part h _ _ _ _ qy4) ?_
  show gi_Ev M_X6_bets 111 [g0, some (.int x1), some (.int x2), some (.int x3), some (.int x4), some (.long x5), g6, g7] [.long y4] h _
  cases hf
  exact gi_EvR rfl rfl
def f_X6_bets_49 : Nat → Int32 → Int32 → Int32 → Int32 → Int64 → Int32 → Option Int64
  | 0, _, _, _, _, _, _ => none
  | n + 1, x1, x2, x3, x4, x5, x7 => if x2 < x7 then f_X6_bets_77 x1 x2 x3 x4 x5
  else if (Int32.toInt64 x7) = 0 then none else f_X6_bets_49 n x1 x2 x3 x4 ((x5 * (Int32.toInt64 ((x1 - x2) + x7))) / (Int32.toInt64 x7)) (x7 + 1)
set_option maxRecDepth 20000 in
set_option maxHeartbeats 2000000 in
theorem e_X6_bets_49 (h : gi_H) : ∀ (n : Nat) (g0 : Option Value) (g6 : Option Value) (x1 : Int32) (x2 : Int32) (x3 : Int32) (x4 : Int32) (x5 : Int64) (x7 : Int32) (r : Int64), f_X6_bets_49 n x1 x2 x3 x4 x5 x7 = some r → gi_Ev M_X6_bets 49 [g0, some (.int x1), some (.int x2), some (.int x3), some (.int x4), some (.long x5), g6, some (.int x7)] [] h (some (.long r), h) := by
  intro n
  induction n with
  | zero =>
    intro g0 g6 x1 x2 x3 x4 x5 x7 r hf
    unfold f_X6_bets_49 at hf
    cases hf
  | succ n ih =>
    intro g0 g6 x1 x2 x3 x4 x5 x7 r hf
    unfold f_X6_bets_49 at hf
    refine gi_EvN 2 (pc' := 52) (lv' := [g0, some (.int x1), some (.int x2), some (.int x3), some (.int x4), some (.long x5), g6, some (.int x7)]) (st' := [.int x2, .int x7]) (h' := h) rfl ?_
    refine gi_Ev_igt rfl (fun c1 => ?_) (fun c1 => ?_)
    · rw [if_pos c1] at hf
      exact e_X6_bets_77 h _ _ _ _ _ _ _ _ _ hf
    · rw [if_neg c1] at hf
      refine gi_EvN 10 (pc' := 68) (lv' := [g0, some (.int x1), some (.int x2), some (.int x3), some (.int x4), some (.long x5), g6, some (.int x7)]) (st' := [.long (Int32.toInt64 x7), .long (x5 * (Int32.toInt64 ((x1 - x2) + x7)))]) (h' := h) rfl ?_
      by_cases c2 : (Int32.toInt64 x7) = 0
      · rw [if_pos c2] at hf; cases hf
      rw [if_neg c2] at hf
      refine gi_EvDl rfl c2 ?_
      refine gi_EvN 3 (pc' := 49) (lv' := [g0, some (.int x1), some (.int x2), some (.int x3), some (.int x4), some (.long ((x5 * (Int32.toInt64 ((x1 - x2) + x7))) / (Int32.toInt64 x7))), none, some (.int (x7 + 1))]) (st' := []) (h' := h) rfl ?_
      exact ih _ _  _  _  _  _  _  _ _ hf
def f_X6_bets (x0 : Nat) (x1 : Int32) (x2 : Int32) (x3 : Int32) (x4 : Int32) : Option Int64 :=
  (f_X6_in x1 0 12).bind fun y1 => if y1 = 0 then some ((-1000000000000000002))
  else (f_X6_in x2 0 x1).bind fun y3 => if y3 = 0 then some ((-1000000000000000002))
  else (f_X6_in x3 0 10).bind fun y5 => if y5 = 0 then some ((-1000000000000000002))
  else (f_X6_in x4 0 1).bind fun y7 => if y7 = 0 then some ((-1000000000000000002))
  else f_X6_bets_49 gi_F x1 x2 x3 x4 1 1
set_option maxRecDepth 20000 in
set_option maxHeartbeats 2000000 in
theorem e_X6_bets (h : gi_H) (x0 : Nat) (x1 : Int32) (x2 : Int32) (x3 : Int32) (x4 : Int32) (r : Int64) (hf : f_X6_bets x0 x1 x2 x3 x4 = some r) : gi_Ev M_X6_bets 0 [some (.ref x0), some (.int x1), some (.int x2), some (.int x3), some (.int x4), none, none, none] [] h (some (.long r), h) := by
  unfold f_X6_bets at hf
  refine gi_EvN 3 (pc' := 4) (lv' := [some (.ref x0), some (.int x1), some (.int x2), some (.int x3), some (.int x4), none, none, none]) (st' := [.int 12, .int 0, .int x1]) (h' := h) rfl ?_
  obtain ⟨y1, qy1, hf⟩ := gi_bind hf
  refine gi_EvCS rfl rfl rfl rfl rfl (e_X6_in h _ _ _ _ qy1) ?_
  show gi_Ev M_X6_bets 7 [some (.ref x0), some (.int x1), some (.int x2), some (.int x3), some (.int x4), none, none, none] [.int y1] h _
  refine gi_Ev_eq rfl (fun c2 => ?_) (fun c2 => ?_)
  · rw [if_pos c2] at hf
    refine gi_EvN 1 (pc' := 42) (lv' := [some (.ref x0), some (.int x1), some (.int x2), some (.int x3), some (.int x4), none, none, none]) (st' := [.long (-1000000000000000002)]) (h' := h) rfl ?_
    cases hf
    exact gi_EvR rfl rfl
  · rw [if_neg c2] at hf
    refine gi_EvN 3 (pc' := 13) (lv' := [some (.ref x0), some (.int x1), some (.int x2), some (.int x3), some (.int x4), none, none, none]) (st' := [.int x1, .int 0, .int x2]) (h' := h) rfl ?_
    obtain ⟨y3, qy3, hf⟩ := gi_bind hf
    refine gi_EvCS rfl rfl rfl rfl rfl (e_X6_in h _ _ _ _ qy3) ?_
    show gi_Ev M_X6_bets 16 [some (.ref x0), some (.int x1), some (.int x2), some (.int x3), some (.int x4), none, none, none] [.int y3] h _
    refine gi_Ev_eq rfl (fun c4 => ?_) (fun c4 => ?_)
    · rw [if_pos c4] at hf
      refine gi_EvN 1 (pc' := 42) (lv' := [some (.ref x0), some (.int x1), some (.int x2), some (.int x3), some (.int x4), none, none, none]) (st' := [.long (-1000000000000000002)]) (h' := h) rfl ?_
      cases hf
      exact gi_EvR rfl rfl
    · rw [if_neg c4] at hf
      refine gi_EvN 3 (pc' := 23) (lv' := [some (.ref x0), some (.int x1), some (.int x2), some (.int x3), some (.int x4), none, none, none]) (st' := [.int 10, .int 0, .int x3]) (h' := h) rfl ?_
      obtain ⟨y5, qy5, hf⟩ := gi_bind hf
      refine gi_EvCS rfl rfl rfl rfl rfl (e_X6_in h _ _ _ _ qy5) ?_
      show gi_Ev M_X6_bets 26 [some (.ref x0), some (.int x1), some (.int x2), some (.int x3), some (.int x4), none, none, none] [.int y5] h _
      refine gi_Ev_eq rfl (fun c6 => ?_) (fun c6 => ?_)
      · rw [if_pos c6] at hf
        refine gi_EvN 1 (pc' := 42) (lv' := [some (.ref x0), some (.int x1), some (.int x2), some (.int x3), some (.int x4), none, none, none]) (st' := [.long (-1000000000000000002)]) (h' := h) rfl ?_
        cases hf
        exact gi_EvR rfl rfl
      · rw [if_neg c6] at hf
        refine gi_EvN 3 (pc' := 33) (lv' := [some (.ref x0), some (.int x1), some (.int x2), some (.int x3), some (.int x4), none, none, none]) (st' := [.int 1, .int 0, .int x4]) (h' := h) rfl ?_
        obtain ⟨y7, qy7, hf⟩ := gi_bind hf
        refine gi_EvCS rfl rfl rfl rfl rfl (e_X6_in h _ _ _ _ qy7) ?_
        show gi_Ev M_X6_bets 36 [some (.ref x0), some (.int x1), some (.int x2), some (.int x3), some (.int x4), none, none, none] [.int y7] h _
        refine gi_Ev_ne rfl (fun c8 => ?_) (fun c8 => ?_)
        · rw [if_pos c8] at hf
          refine gi_EvN 1 (pc' := 42) (lv' := [some (.ref x0), some (.int x1), some (.int x2), some (.int x3), some (.int x4), none, none, none]) (st' := [.long (-1000000000000000002)]) (h' := h) rfl ?_
          cases hf
          exact gi_EvR rfl rfl
        · rw [if_neg c8] at hf
          refine gi_EvN 4 (pc' := 49) (lv' := [some (.ref x0), some (.int x1), some (.int x2), some (.int x3), some (.int x4), some (.long 1), none, some (.int 1)]) (st' := []) (h' := h) rfl ?_
          exact e_X6_bets_49 h gi_F _ _ _ _ _ _ _ _ _ hf
/-! X6_year AdmiralGuineaModel.year(III)I -/
def f_X6_year_137 (k_43 : gi_H → Nat → Int32 → Int32 → Int32 → Int32 → Option (Int32 × gi_H)) (h : gi_H) (x0 : Nat) (x2 : Int32) (x3 : Int32) (x4 : Int32) (x5 : Int32) : Option (Int32 × gi_H) :=
  if gi_is h x0 6 = true then (f_X6_month h x0).bind fun y1 => k_43 y1.2 x0 x2 x3 x4 (x5 + 1) else none
set_option maxRecDepth 20000 in
set_option maxHeartbeats 2000000 in
theorem e_X6_year_137 (k_43 : gi_H → Nat → Int32 → Int32 → Int32 → Int32 → Option (Int32 × gi_H)) (hk_43 : ∀ (g1 : Option Value) (g6 : Option Value) (h : gi_H) (x0 : Nat) (x2 : Int32) (x3 : Int32) (x4 : Int32) (x5 : Int32) (r : (Int32 × gi_H)), k_43 h x0 x2 x3 x4 x5 = some r → gi_Ev M_X6_year 43 [some (.ref x0), g1, some (.int x2), some (.int x3), some (.int x4), some (.int x5), g6] [] h (some (.int r.1), r.2)) (g1 : Option Value) (g6 : Option Value) (h : gi_H) (x0 : Nat) (x2 : Int32) (x3 : Int32) (x4 : Int32) (x5 : Int32) (r : (Int32 × gi_H)) (hf : f_X6_year_137 k_43 h x0 x2 x3 x4 x5 = some r) : gi_Ev M_X6_year 137 [some (.ref x0), g1, some (.int x2), some (.int x3), some (.int x4), some (.int x5), g6] [] h (some (.int r.1), r.2) := by
  unfold f_X6_year_137 at hf
  refine gi_EvN 1 (pc' := 138) (lv' := [some (.ref x0), g1, some (.int x2), some (.int x3), some (.int x4), some (.int x5), g6]) (st' := [.ref x0]) (h' := h) rfl ?_
  by_cases c2 : gi_is h x0 6 = true
  rotate_left
  · rw [if_neg c2] at hf; cases hf
  rw [if_pos c2] at hf
  obtain ⟨y1, qy1, hf⟩ := gi_bind hf
  refine gi_EvCV rfl rfl c2 rfl rfl (e_X6_month h _ _ qy1) ?_
  show gi_Ev M_X6_year 141 [some (.ref x0), g1, some (.int x2), some (.int x3), some (.int x4), some (.int x5), g6] [.int y1.1] y1.2 _
  refine gi_EvN 3 (pc' := 43) (lv' := [some (.ref x0), g1, some (.int x2), some (.int x3), some (.int x4), some (.int (x5 + 1)), g6]) (st' := []) (h' := y1.2) rfl ?_
  exact hk_43 _ _ _ _  _  _  _  _ _ hf
def f_X6_year_111 (k_43 : gi_H → Nat → Int32 → Int32 → Int32 → Int32 → Option (Int32 × gi_H)) (h : gi_H) (x0 : Nat) (x2 : Int32) (x3 : Int32) (x4 : Int32) (x5 : Int32) (x6 : Int32) : Option (Int32 × gi_H) :=
  if gi_is h x0 6 = true then (f_X6_buy h x0 ((x4 / 60) - (x4 / 60) / 4 * 4) x6 1 (1 + ((x4 / 240) - (x4 / 240) / 9 * 9))).bind fun y1 => f_X6_year_137 k_43 y1.2 x0 x2 x3 x4 x5 else none
set_option maxRecDepth 20000 in
set_option maxHeartbeats 2000000 in
theorem e_X6_year_111 (k_43 : gi_H → Nat → Int32 → Int32 → Int32 → Int32 → Option (Int32 × gi_H)) (hk_43 : ∀ (g1 : Option Value) (g6 : Option Value) (h : gi_H) (x0 : Nat) (x2 : Int32) (x3 : Int32) (x4 : Int32) (x5 : Int32) (r : (Int32 × gi_H)), k_43 h x0 x2 x3 x4 x5 = some r → gi_Ev M_X6_year 43 [some (.ref x0), g1, some (.int x2), some (.int x3), some (.int x4), some (.int x5), g6] [] h (some (.int r.1), r.2)) (g1 : Option Value) (h : gi_H) (x0 : Nat) (x2 : Int32) (x3 : Int32) (x4 : Int32) (x5 : Int32) (x6 : Int32) (r : (Int32 × gi_H)) (hf : f_X6_year_111 k_43 h x0 x2 x3 x4 x5 x6 = some r) : gi_Ev M_X6_year 111 [some (.ref x0), g1, some (.int x2), some (.int x3), some (.int x4), some (.int x5), some (.int x6)] [] h (some (.int r.1), r.2) := by
  unfold f_X6_year_111 at hf
  refine gi_EvN 3 (pc' := 116) (lv' := [some (.ref x0), g1, some (.int x2), some (.int x3), some (.int x4), some (.int x5), some (.int x6)]) (st' := [.int 60, .int x4, .ref x0]) (h' := h) rfl ?_
  refine gi_EvDi rfl (by decide) ?_
  refine gi_EvN 1 (pc' := 118) (lv' := [some (.ref x0), g1, some (.int x2), some (.int x3), some (.int x4), some (.int x5), some (.int x6)]) (st' := [.int 4, .int (x4 / 60), .ref x0]) (h' := h) rfl ?_
  refine gi_EvRi rfl (by decide) ?_
  refine gi_EvN 5 (pc' := 128) (lv' := [some (.ref x0), g1, some (.int x2), some (.int x3), some (.int x4), some (.int x5), some (.int x6)]) (st' := [.int 240, .int x4, .int 1, .int 1, .int x6, .int ((x4 / 60) - (x4 / 60) / 4 * 4), .ref x0]) (h' := h) rfl ?_
  refine gi_EvDi rfl (by decide) ?_
  refine gi_EvN 1 (pc' := 131) (lv' := [some (.ref x0), g1, some (.int x2), some (.int x3), some (.int x4), some (.int x5), some (.int x6)]) (st' := [.int 9, .int (x4 / 240), .int 1, .int 1, .int x6, .int ((x4 / 60) - (x4 / 60) / 4 * 4), .ref x0]) (h' := h) rfl ?_
  refine gi_EvRi rfl (by decide) ?_
  refine gi_EvN 1 (pc' := 133) (lv' := [some (.ref x0), g1, some (.int x2), some (.int x3), some (.int x4), some (.int x5), some (.int x6)]) (st' := [.int (1 + ((x4 / 240) - (x4 / 240) / 9 * 9)), .int 1, .int x6, .int ((x4 / 60) - (x4 / 60) / 4 * 4), .ref x0]) (h' := h) rfl ?_
  by_cases c2 : gi_is h x0 6 = true
  rotate_left
  · rw [if_neg c2] at hf; cases hf
  rw [if_pos c2] at hf
  obtain ⟨y1, qy1, hf⟩ := gi_bind hf
  refine gi_EvCV rfl rfl c2 rfl rfl (e_X6_buy h _ _ _ _ _ _ qy1) ?_
  show gi_Ev M_X6_year 136 [some (.ref x0), g1, some (.int x2), some (.int x3), some (.int x4), some (.int x5), some (.int x6)] [.int y1.1] y1.2 _
  refine gi_EvN 1 (pc' := 137) (lv' := [some (.ref x0), g1, some (.int x2), some (.int x3), some (.int x4), some (.int x5), some (.int x6)]) (st' := []) (h' := y1.2) rfl ?_
  exact e_X6_year_137 _ hk_43 _ _ y1.2 _ _ _ _ _ _ hf
def f_X6_year_148 (h : gi_H) (x0 : Nat) (x3 : Int32) : Option (Int32 × gi_H) :=
  if x3 = 0 then (gi_fR h x0 6 1).bind fun y2 => (gi_ai h y2 0 6).bind fun y3 => (gi_fR h x0 6 1).bind fun y4 => (gi_ai h y4 0 7).bind fun y5 => (gi_fR h x0 6 1).bind fun y6 => (gi_ai h y6 0 8).bind fun y7 => (gi_fR h x0 6 1).bind fun y8 => (gi_ai h y8 0 9).bind fun y9 => some ((((y3 + y5) + y7) + y9), h)
  else if x3 = 1 then (gi_fR h x0 6 1).bind fun y11 => (gi_ai h y11 0 10).bind fun y12 => some (y12, h)
  else (gi_fR h x0 6 1).bind fun y13 => (gi_ai h y13 0 12).bind fun y14 => (f_X6_bits y14).bind fun y15 => some ((6 - y15), h)
set_option maxRecDepth 20000 in
set_option maxHeartbeats 2000000 in
theorem e_X6_year_148 (g1 : Option Value) (g2 : Option Value) (g4 : Option Value) (g5 : Option Value) (g6 : Option Value) (h : gi_H) (x0 : Nat) (x3 : Int32) (r : (Int32 × gi_H)) (hf : f_X6_year_148 h x0 x3 = some r) : gi_Ev M_X6_year 148 [some (.ref x0), g1, g2, some (.int x3), g4, g5, g6] [] h (some (.int r.1), r.2) := by
  unfold f_X6_year_148 at hf
  refine gi_EvN 1 (pc' := 149) (lv' := [some (.ref x0), g1, g2, some (.int x3), g4, g5, g6]) (st' := [.int x3]) (h' := h) rfl ?_
  refine gi_Ev_ne rfl (fun c1 => ?_) (fun c1 => ?_)
  · rw [if_pos c1] at hf
    refine gi_EvN 1 (pc' := 153) (lv' := [some (.ref x0), g1, g2, some (.int x3), g4, g5, g6]) (st' := [.ref x0]) (h' := h) rfl ?_
    obtain ⟨y2, qy2, hf⟩ := gi_bind hf
    refine gi_EvF rfl (gi_fR_inv qy2) ?_
    refine gi_EvN 1 (pc' := 158) (lv' := [some (.ref x0), g1, g2, some (.int x3), g4, g5, g6]) (st' := [.int 6, .ref y2]) (h' := h) rfl ?_
    obtain ⟨y3, qy3, hf⟩ := gi_bind hf
    refine gi_EvAi rfl qy3 ?_
    refine gi_EvN 1 (pc' := 160) (lv' := [some (.ref x0), g1, g2, some (.int x3), g4, g5, g6]) (st' := [.ref x0, .int y3]) (h' := h) rfl ?_
    obtain ⟨y4, qy4, hf⟩ := gi_bind hf
    refine gi_EvF rfl (gi_fR_inv qy4) ?_
    refine gi_EvN 1 (pc' := 165) (lv' := [some (.ref x0), g1, g2, some (.int x3), g4, g5, g6]) (st' := [.int 7, .ref y4, .int y3]) (h' := h) rfl ?_
    obtain ⟨y5, qy5, hf⟩ := gi_bind hf
    refine gi_EvAi rfl qy5 ?_
    refine gi_EvN 2 (pc' := 168) (lv' := [some (.ref x0), g1, g2, some (.int x3), g4, g5, g6]) (st' := [.ref x0, .int (y3 + y5)]) (h' := h) rfl ?_
    obtain ⟨y6, qy6, hf⟩ := gi_bind hf
    refine gi_EvF rfl (gi_fR_inv qy6) ?_
    refine gi_EvN 1 (pc' := 173) (lv' := [some (.ref x0), g1, g2, some (.int x3), g4, g5, g6]) (st' := [.int 8, .ref y6, .int (y3 + y5)]) (h' := h) rfl ?_
    obtain ⟨y7, qy7, hf⟩ := gi_bind hf
    refine gi_EvAi rfl qy7 ?_
    refine gi_EvN 2 (pc' := 176) (lv' := [some (.ref x0), g1, g2, some (.int x3), g4, g5, g6]) (st' := [.ref x0, .int ((y3 + y5) + y7)]) (h' := h) rfl ?_
    obtain ⟨y8, qy8, hf⟩ := gi_bind hf
    refine gi_EvF rfl (gi_fR_inv qy8) ?_
    refine gi_EvN 1 (pc' := 181) (lv' := [some (.ref x0), g1, g2, some (.int x3), g4, g5, g6]) (st' := [.int 9, .ref y8, .int ((y3 + y5) + y7)]) (h' := h) rfl ?_
    obtain ⟨y9, qy9, hf⟩ := gi_bind hf
    refine gi_EvAi rfl qy9 ?_
    refine gi_EvN 2 (pc' := 214) (lv' := [some (.ref x0), g1, g2, some (.int x3), g4, g5, g6]) (st' := [.int (((y3 + y5) + y7) + y9)]) (h' := h) rfl ?_
    cases hf
    exact gi_EvR rfl rfl
  · rw [if_neg c1] at hf
    refine gi_EvN 2 (pc' := 188) (lv' := [some (.ref x0), g1, g2, some (.int x3), g4, g5, g6]) (st' := [.int 1, .int x3]) (h' := h) rfl ?_
    refine gi_Ev_ine rfl (fun c10 => ?_) (fun c10 => ?_)
    · rw [if_pos c10] at hf
      refine gi_EvN 1 (pc' := 192) (lv' := [some (.ref x0), g1, g2, some (.int x3), g4, g5, g6]) (st' := [.ref x0]) (h' := h) rfl ?_
      obtain ⟨y11, qy11, hf⟩ := gi_bind hf
      refine gi_EvF rfl (gi_fR_inv qy11) ?_
      refine gi_EvN 1 (pc' := 197) (lv' := [some (.ref x0), g1, g2, some (.int x3), g4, g5, g6]) (st' := [.int 10, .ref y11]) (h' := h) rfl ?_
      obtain ⟨y12, qy12, hf⟩ := gi_bind hf
      refine gi_EvAi rfl qy12 ?_
      refine gi_EvN 1 (pc' := 214) (lv' := [some (.ref x0), g1, g2, some (.int x3), g4, g5, g6]) (st' := [.int y12]) (h' := h) rfl ?_
      cases hf
      exact gi_EvR rfl rfl
    · rw [if_neg c10] at hf
      refine gi_EvN 2 (pc' := 204) (lv' := [some (.ref x0), g1, g2, some (.int x3), g4, g5, g6]) (st' := [.ref x0, .int 6]) (h' := h) rfl ?_
      obtain ⟨y13, qy13, hf⟩ := gi_bind hf
      refine gi_EvF rfl (gi_fR_inv qy13) ?_
      refine gi_EvN 1 (pc' := 209) (lv' := [some (.ref x0), g1, g2, some (.int x3), g4, g5, g6]) (st' := [.int 12, .ref y13, .int 6]) (h' := h) rfl ?_
      obtain ⟨y14, qy14, hf⟩ := gi_bind hf
      refine gi_EvAi rfl qy14 ?_
      obtain ⟨y15, qy15, hf⟩ := gi_bind hf
      refine gi_EvCS rfl rfl rfl rfl rfl (e_X6_bits h _ _ qy15) ?_
      show gi_Ev M_X6_year 213 [some (.ref x0), g1, g2, some (.int x3), g4, g5, g6] [.int y15, .int 6] h _
      refine gi_EvN 1 (pc' := 214) (lv' := [some (.ref x0), g1, g2, some (.int x3), g4, g5, g6]) (st' := [.int (6 - y15)]) (h' := h) rfl ?_
      cases hf
      exact gi_EvR rfl rfl
def f_X6_year_43 : Nat → gi_H → Nat → Int32 → Int32 → Int32 → Int32 → Option (Int32 × gi_H)
  | 0, _, _, _, _, _, _ => none
  | n + 1, h, x0, x2, x3, x4, x5 => if x2 ≤ x5 then f_X6_year_148 h x0 x3
  else (gi_fR h x0 6 1).bind fun y2 => (gi_ai h y2 0 12).bind fun y3 => (f_X6_has y3 ((((75 * x4) + 74) - ((75 * x4) + 74) / 65537 * 65537) - (((75 * x4) + 74) - ((75 * x4) + 74) / 65537 * 65537) / 6 * 6)).bind fun y4 => if y4 = 0 then (gi_fR h x0 6 1).bind fun y6 => (gi_ai h y6 0 ((((75 * x4) + 74) - ((75 * x4) + 74) / 65537 * 65537) - (((75 * x4) + 74) - ((75 * x4) + 74) / 65537 * 65537) / 6 * 6)).bind fun y7 => if y7 ≤ (((((75 * x4) + 74) - ((75 * x4) + 74) / 65537 * 65537) / 6) - ((((75 * x4) + 74) - ((75 * x4) + 74) / 65537 * 65537) / 6) / 10 * 10) then f_X6_year_111 (f_X6_year_43 n) h x0 x2 x3 (((75 * x4) + 74) - ((75 * x4) + 74) / 65537 * 65537) x5 ((((75 * x4) + 74) - ((75 * x4) + 74) / 65537 * 65537) - (((75 * x4) + 74) - ((75 * x4) + 74) / 65537 * 65537) / 6 * 6)
  else if gi_is h x0 6 = true then (f_X6_end h x0 ((((75 * x4) + 74) - ((75 * x4) + 74) / 65537 * 65537) - (((75 * x4) + 74) - ((75 * x4) + 74) / 65537 * 65537) / 6 * 6)).bind fun h9 => f_X6_year_137 (f_X6_year_43 n) h9 x0 x2 x3 (((75 * x4) + 74) - ((75 * x4) + 74) / 65537 * 65537) x5 else none
  else f_X6_year_111 (f_X6_year_43 n) h x0 x2 x3 (((75 * x4) + 74) - ((75 * x4) + 74) / 65537 * 65537) x5 ((((75 * x4) + 74) - ((75 * x4) + 74) / 65537 * 65537) - (((75 * x4) + 74) - ((75 * x4) + 74) / 65537 * 65537) / 6 * 6)
set_option maxRecDepth 20000 in
set_option maxHeartbeats 2000000 in
theorem e_X6_year_43 : ∀ (n : Nat) (g1 : Option Value) (g6 : Option Value) (h : gi_H) (x0 : Nat) (x2 : Int32) (x3 : Int32) (x4 : Int32) (x5 : Int32) (r : (Int32 × gi_H)), f_X6_year_43 n h x0 x2 x3 x4 x5 = some r → gi_Ev M_X6_year 43 [some (.ref x0), g1, some (.int x2), some (.int x3), some (.int x4), some (.int x5), g6] [] h (some (.int r.1), r.2) := by
  intro n
  induction n with
  | zero =>
    intro g1 g6 h x0 x2 x3 x4 x5 r hf
    unfold f_X6_year_43 at hf
    cases hf
  | succ n ih =>
    intro g1 g6 h x0 x2 x3 x4 x5 r hf
    unfold f_X6_year_43 at hf
    refine gi_EvN 2 (pc' := 46) (lv' := [some (.ref x0), g1, some (.int x2), some (.int x3), some (.int x4), some (.int x5), g6]) (st' := [.int x2, .int x5]) (h' := h) rfl ?_
    refine gi_Ev_ige rfl (fun c1 => ?_) (fun c1 => ?_)
    · rw [if_pos c1] at hf
      exact e_X6_year_148 _ _ _ _ _ h _ _ _ hf
    · rw [if_neg c1] at hf
      refine gi_EvN 6 (pc' := 59) (lv' := [some (.ref x0), g1, some (.int x2), some (.int x3), some (.int x4), some (.int x5), g6]) (st' := [.int 65537, .int ((75 * x4) + 74)]) (h' := h) rfl ?_
      refine gi_EvRi rfl (by decide) ?_
      refine gi_EvN 3 (pc' := 66) (lv' := [some (.ref x0), g1, some (.int x2), some (.int x3), some (.int (((75 * x4) + 74) - ((75 * x4) + 74) / 65537 * 65537)), some (.int x5), g6]) (st' := [.int 6, .int (((75 * x4) + 74) - ((75 * x4) + 74) / 65537 * 65537)]) (h' := h) rfl ?_
      refine gi_EvRi rfl (by decide) ?_
      refine gi_EvN 2 (pc' := 70) (lv' := [some (.ref x0), g1, some (.int x2), some (.int x3), some (.int (((75 * x4) + 74) - ((75 * x4) + 74) / 65537 * 65537)), some (.int x5), some (.int ((((75 * x4) + 74) - ((75 * x4) + 74) / 65537 * 65537) - (((75 * x4) + 74) - ((75 * x4) + 74) / 65537 * 65537) / 6 * 6))]) (st' := [.ref x0]) (h' := h) rfl ?_
      obtain ⟨y2, qy2, hf⟩ := gi_bind hf
      refine gi_EvF rfl (gi_fR_inv qy2) ?_
      refine gi_EvN 1 (pc' := 75) (lv' := [some (.ref x0), g1, some (.int x2), some (.int x3), some (.int (((75 * x4) + 74) - ((75 * x4) + 74) / 65537 * 65537)), some (.int x5), some (.int ((((75 * x4) + 74) - ((75 * x4) + 74) / 65537 * 65537) - (((75 * x4) + 74) - ((75 * x4) + 74) / 65537 * 65537) / 6 * 6))]) (st' := [.int 12, .ref y2]) (h' := h) rfl ?_
      obtain ⟨y3, qy3, hf⟩ := gi_bind hf
      refine gi_EvAi rfl qy3 ?_
      refine gi_EvN 1 (pc' := 78) (lv' := [some (.ref x0), g1, some (.int x2), some (.int x3), some (.int (((75 * x4) + 74) - ((75 * x4) + 74) / 65537 * 65537)), some (.int x5), some (.int ((((75 * x4) + 74) - ((75 * x4) + 74) / 65537 * 65537) - (((75 * x4) + 74) - ((75 * x4) + 74) / 65537 * 65537) / 6 * 6))]) (st' := [.int ((((75 * x4) + 74) - ((75 * x4) + 74) / 65537 * 65537) - (((75 * x4) + 74) - ((75 * x4) + 74) / 65537 * 65537) / 6 * 6), .int y3]) (h' := h) rfl ?_
      obtain ⟨y4, qy4, hf⟩ := gi_bind hf
      refine gi_EvCS rfl rfl rfl rfl rfl (e_X6_has h _ _ _ qy4) ?_
      show gi_Ev M_X6_year 81 [some (.ref x0), g1, some (.int x2), some (.int x3), some (.int (((75 * x4) + 74) - ((75 * x4) + 74) / 65537 * 65537)), some (.int x5), some (.int ((((75 * x4) + 74) - ((75 * x4) + 74) / 65537 * 65537) - (((75 * x4) + 74) - ((75 * x4) + 74) / 65537 * 65537) / 6 * 6))] [.int y4] h _
      refine gi_Ev_ne rfl (fun c5 => ?_) (fun c5 => ?_)
      · rw [if_pos c5] at hf
        refine gi_EvN 2 (pc' := 88) (lv' := [some (.ref x0), g1, some (.int x2), some (.int x3), some (.int (((75 * x4) + 74) - ((75 * x4) + 74) / 65537 * 65537)), some (.int x5), some (.int ((((75 * x4) + 74) - ((75 * x4) + 74) / 65537 * 65537) - (((75 * x4) + 74) - ((75 * x4) + 74) / 65537 * 65537) / 6 * 6))]) (st' := [.int 6, .int (((75 * x4) + 74) - ((75 * x4) + 74) / 65537 * 65537)]) (h' := h) rfl ?_
        refine gi_EvDi rfl (by decide) ?_
        refine gi_EvN 1 (pc' := 91) (lv' := [some (.ref x0), g1, some (.int x2), some (.int x3), some (.int (((75 * x4) + 74) - ((75 * x4) + 74) / 65537 * 65537)), some (.int x5), some (.int ((((75 * x4) + 74) - ((75 * x4) + 74) / 65537 * 65537) - (((75 * x4) + 74) - ((75 * x4) + 74) / 65537 * 65537) / 6 * 6))]) (st' := [.int 10, .int ((((75 * x4) + 74) - ((75 * x4) + 74) / 65537 * 65537) / 6)]) (h' := h) rfl ?_
        refine gi_EvRi rfl (by decide) ?_
        refine gi_EvN 1 (pc' := 93) (lv' := [some (.ref x0), g1, some (.int x2), some (.int x3), some (.int (((75 * x4) + 74) - ((75 * x4) + 74) / 65537 * 65537)), some (.int x5), some (.int ((((75 * x4) + 74) - ((75 * x4) + 74) / 65537 * 65537) - (((75 * x4) + 74) - ((75 * x4) + 74) / 65537 * 65537) / 6 * 6))]) (st' := [.ref x0, .int (((((75 * x4) + 74) - ((75 * x4) + 74) / 65537 * 65537) / 6) - ((((75 * x4) + 74) - ((75 * x4) + 74) / 65537 * 65537) / 6) / 10 * 10)]) (h' := h) rfl ?_
        obtain ⟨y6, qy6, hf⟩ := gi_bind hf
        refine gi_EvF rfl (gi_fR_inv qy6) ?_
        refine gi_EvN 1 (pc' := 98) (lv' := [some (.ref x0), g1, some (.int x2), some (.int x3), some (.int (((75 * x4) + 74) - ((75 * x4) + 74) / 65537 * 65537)), some (.int x5), some (.int ((((75 * x4) + 74) - ((75 * x4) + 74) / 65537 * 65537) - (((75 * x4) + 74) - ((75 * x4) + 74) / 65537 * 65537) / 6 * 6))]) (st' := [.int ((((75 * x4) + 74) - ((75 * x4) + 74) / 65537 * 65537) - (((75 * x4) + 74) - ((75 * x4) + 74) / 65537 * 65537) / 6 * 6), .ref y6, .int (((((75 * x4) + 74) - ((75 * x4) + 74) / 65537 * 65537) / 6) - ((((75 * x4) + 74) - ((75 * x4) + 74) / 65537 * 65537) / 6) / 10 * 10)]) (h' := h) rfl ?_
        obtain ⟨y7, qy7, hf⟩ := gi_bind hf
        refine gi_EvAi rfl qy7 ?_
        refine gi_Ev_ige rfl (fun c8 => ?_) (fun c8 => ?_)
        · rw [if_pos c8] at hf
          exact e_X6_year_111 _ ih _ h _ _ _ _ _ _ _ hf
        · rw [if_neg c8] at hf
          refine gi_EvN 2 (pc' := 105) (lv' := [some (.ref x0), g1, some (.int x2), some (.int x3), some (.int (((75 * x4) + 74) - ((75 * x4) + 74) / 65537 * 65537)), some (.int x5), some (.int ((((75 * x4) + 74) - ((75 * x4) + 74) / 65537 * 65537) - (((75 * x4) + 74) - ((75 * x4) + 74) / 65537 * 65537) / 6 * 6))]) (st' := [.int ((((75 * x4) + 74) - ((75 * x4) + 74) / 65537 * 65537) - (((75 * x4) + 74) - ((75 * x4) + 74) / 65537 * 65537) / 6 * 6), .ref x0]) (h' := h) rfl ?_
          by_cases c10 : gi_is h x0 6 = true
          rotate_left
          · rw [if_neg c10] at hf; cases hf
          rw [if_pos c10] at hf
          obtain ⟨h9, qh9, hf⟩ := gi_bind hf
          refine gi_EvCV rfl rfl c10 rfl rfl (e_X6_end h _ _ _ qh9) ?_
          show gi_Ev M_X6_year 108 [some (.ref x0), g1, some (.int x2), some (.int x3), some (.int (((75 * x4) + 74) - ((75 * x4) + 74) / 65537 * 65537)), some (.int x5), some (.int ((((75 * x4) + 74) - ((75 * x4) + 74) / 65537 * 65537) - (((75 * x4) + 74) - ((75 * x4) + 74) / 65537 * 65537) / 6 * 6))] [] h9 _
          refine gi_EvN 1 (pc' := 137) (lv' := [some (.ref x0), g1, some (.int x2), some (.int x3), some (.int (((75 * x4) + 74) - ((75 * x4) + 74) / 65537 * 65537)), some (.int x5), some (.int ((((75 * x4) + 74) - ((75 * x4) + 74) / 65537 * 65537) - (((75 * x4) + 74) - ((75 * x4) + 74) / 65537 * 65537) / 6 * 6))]) (st' := []) (h' := h9) rfl ?_
          exact e_X6_year_137 _ ih _ _ h9 _ _ _ _ _ _ hf
      · rw [if_neg c5] at hf
        exact e_X6_year_111 _ ih _ h _ _ _ _ _ _ _ hf
def f_X6_year (h : gi_H) (x0 : Nat) (x1 : Int32) (x2 : Int32) (x3 : Int32) : Option (Int32 × gi_H) :=
  (f_X6_in x1 0 9999).bind fun y1 => if y1 = 0 then some ((-2), h)
  else (f_X6_in x2 1 60).bind fun y3 => if y3 = 0 then some ((-2), h)
  else (f_X6_in x3 0 2).bind fun y5 => if y5 = 0 then some ((-2), h)
  else if gi_is h x0 6 = true then (f_X6_asNow h x0).bind fun h7 => f_X6_year_43 gi_F h7 x0 x2 x3 x1 0 else none
set_option maxRecDepth 20000 in
set_option maxHeartbeats 2000000 in
theorem e_X6_year (h : gi_H) (x0 : Nat) (x1 : Int32) (x2 : Int32) (x3 : Int32) (r : (Int32 × gi_H)) (hf : f_X6_year h x0 x1 x2 x3 = some r) : gi_Ev M_X6_year 0 [some (.ref x0), some (.int x1), some (.int x2), some (.int x3), none, none, none] [] h (some (.int r.1), r.2) := by
  unfold f_X6_year at hf
  refine gi_EvN 3 (pc' := 5) (lv' := [some (.ref x0), some (.int x1), some (.int x2), some (.int x3), none, none, none]) (st' := [.int 9999, .int 0, .int x1]) (h' := h) rfl ?_
  obtain ⟨y1, qy1, hf⟩ := gi_bind hf
  refine gi_EvCS rfl rfl rfl rfl rfl (e_X6_in h _ _ _ _ qy1) ?_
  show gi_Ev M_X6_year 8 [some (.ref x0), some (.int x1), some (.int x2), some (.int x3), none, none, none] [.int y1] h _
  refine gi_Ev_eq rfl (fun c2 => ?_) (fun c2 => ?_)
  · rw [if_pos c2] at hf
    refine gi_EvN 1 (pc' := 32) (lv' := [some (.ref x0), some (.int x1), some (.int x2), some (.int x3), none, none, none]) (st' := [.int (-2)]) (h' := h) rfl ?_
    cases hf
    exact gi_EvR rfl rfl
  · rw [if_neg c2] at hf
    refine gi_EvN 3 (pc' := 15) (lv' := [some (.ref x0), some (.int x1), some (.int x2), some (.int x3), none, none, none]) (st' := [.int 60, .int 1, .int x2]) (h' := h) rfl ?_
    obtain ⟨y3, qy3, hf⟩ := gi_bind hf
    refine gi_EvCS rfl rfl rfl rfl rfl (e_X6_in h _ _ _ _ qy3) ?_
    show gi_Ev M_X6_year 18 [some (.ref x0), some (.int x1), some (.int x2), some (.int x3), none, none, none] [.int y3] h _
    refine gi_Ev_eq rfl (fun c4 => ?_) (fun c4 => ?_)
    · rw [if_pos c4] at hf
      refine gi_EvN 1 (pc' := 32) (lv' := [some (.ref x0), some (.int x1), some (.int x2), some (.int x3), none, none, none]) (st' := [.int (-2)]) (h' := h) rfl ?_
      cases hf
      exact gi_EvR rfl rfl
    · rw [if_neg c4] at hf
      refine gi_EvN 3 (pc' := 24) (lv' := [some (.ref x0), some (.int x1), some (.int x2), some (.int x3), none, none, none]) (st' := [.int 2, .int 0, .int x3]) (h' := h) rfl ?_
      obtain ⟨y5, qy5, hf⟩ := gi_bind hf
      refine gi_EvCS rfl rfl rfl rfl rfl (e_X6_in h _ _ _ _ qy5) ?_
      show gi_Ev M_X6_year 27 [some (.ref x0), some (.int x1), some (.int x2), some (.int x3), none, none, none] [.int y5] h _
      refine gi_Ev_ne rfl (fun c6 => ?_) (fun c6 => ?_)
      · rw [if_pos c6] at hf
        refine gi_EvN 1 (pc' := 32) (lv' := [some (.ref x0), some (.int x1), some (.int x2), some (.int x3), none, none, none]) (st' := [.int (-2)]) (h' := h) rfl ?_
        cases hf
        exact gi_EvR rfl rfl
      · rw [if_neg c6] at hf
        refine gi_EvN 1 (pc' := 34) (lv' := [some (.ref x0), some (.int x1), some (.int x2), some (.int x3), none, none, none]) (st' := [.ref x0]) (h' := h) rfl ?_
        by_cases c8 : gi_is h x0 6 = true
        rotate_left
        · rw [if_neg c8] at hf; cases hf
        rw [if_pos c8] at hf
        obtain ⟨h7, qh7, hf⟩ := gi_bind hf
        refine gi_EvCV rfl rfl c8 rfl rfl (e_X6_asNow h _ _ qh7) ?_
        show gi_Ev M_X6_year 37 [some (.ref x0), some (.int x1), some (.int x2), some (.int x3), none, none, none] [] h7 _
        refine gi_EvN 4 (pc' := 43) (lv' := [some (.ref x0), some (.int x1), some (.int x2), some (.int x3), some (.int x1), some (.int 0), none]) (st' := []) (h' := h7) rfl ?_
        exact e_X6_year_43 gi_F _ _ h7 _ _ _ _ _ _ hf
/-! X6_image AdmiralGuineaModel.image(I)I -/
def f_X6_image_77 (h : gi_H) (x0 : Nat) (x1 : Int32) : Option (Int32 × gi_H) :=
  (gi_fR h x0 6 14).bind fun y1 => (gi_fI h x0 6 2).bind fun y2 => (gi_pi h y1 0 ((100 * x1) + 90) y2).bind fun h3 => (gi_fR h3 x0 6 15).bind fun y4 => (gi_pi h3 y4 2 x1 1).bind fun h5 => some (1, h5)
set_option maxRecDepth 20000 in
set_option maxHeartbeats 2000000 in
theorem e_X6_image_77 (g2 : Option Value) (h : gi_H) (x0 : Nat) (x1 : Int32) (r : (Int32 × gi_H)) (hf : f_X6_image_77 h x0 x1 = some r) : gi_Ev M_X6_image 77 [some (.ref x0), some (.int x1), g2] [] h (some (.int r.1), r.2) := by
  unfold f_X6_image_77 at hf
  refine gi_EvN 1 (pc' := 78) (lv' := [some (.ref x0), some (.int x1), g2]) (st' := [.ref x0]) (h' := h) rfl ?_
  obtain ⟨y1, qy1, hf⟩ := gi_bind hf
  refine gi_EvF rfl (gi_fR_inv qy1) ?_
  refine gi_EvN 6 (pc' := 89) (lv' := [some (.ref x0), some (.int x1), g2]) (st' := [.ref x0, .int ((100 * x1) + 90), .ref y1]) (h' := h) rfl ?_
  obtain ⟨y2, qy2, hf⟩ := gi_bind hf
  refine gi_EvF rfl (gi_fI_inv qy2) ?_
  obtain ⟨h3, qh3, hf⟩ := gi_bind hf
  refine gi_EvPi rfl qh3 ?_
  refine gi_EvN 1 (pc' := 94) (lv' := [some (.ref x0), some (.int x1), g2]) (st' := [.ref x0]) (h' := h3) rfl ?_
  obtain ⟨y4, qy4, hf⟩ := gi_bind hf
  refine gi_EvF rfl (gi_fR_inv qy4) ?_
  refine gi_EvN 2 (pc' := 99) (lv' := [some (.ref x0), some (.int x1), g2]) (st' := [.int 1, .int x1, .ref y4]) (h' := h3) rfl ?_
  obtain ⟨h5, qh5, hf⟩ := gi_bind hf
  refine gi_EvPb rfl (by decide) qh5 ?_
  refine gi_EvN 1 (pc' := 101) (lv' := [some (.ref x0), some (.int x1), g2]) (st' := [.int 1]) (h' := h5) rfl ?_
  cases hf
  exact gi_EvR rfl rfl
def f_X6_image_45 : Nat → gi_H → Nat → Int32 → Int32 → Option (Int32 × gi_H)
  | 0, _, _, _, _ => none
  | n + 1, h, x0, x1, x2 => if 24 ≤ x2 then f_X6_image_77 h x0 x1
  else (gi_fR h x0 6 14).bind fun y2 => (gi_fR h x0 6 3).bind fun y3 => (gi_ai h y3 0 x2).bind fun y4 => (gi_pi h y2 0 (((100 * x1) + 63) + x2) y4).bind fun h5 => f_X6_image_45 n h5 x0 x1 (x2 + 1)
set_option maxRecDepth 20000 in
set_option maxHeartbeats 2000000 in
theorem e_X6_image_45 : ∀ (n : Nat) (h : gi_H) (x0 : Nat) (x1 : Int32) (x2 : Int32) (r : (Int32 × gi_H)), f_X6_image_45 n h x0 x1 x2 = some r → gi_Ev M_X6_image 45 [some (.ref x0), some (.int x1), some (.int x2)] [] h (some (.int r.1), r.2) := by
  intro n
  induction n with
  | zero =>
    intro h x0 x1 x2 r hf
    unfold f_X6_image_45 at hf
    cases hf
  | succ n ih =>
    intro h x0 x1 x2 r hf
    unfold f_X6_image_45 at hf
    refine gi_EvN 2 (pc' := 48) (lv' := [some (.ref x0), some (.int x1), some (.int x2)]) (st' := [.int 24, .int x2]) (h' := h) rfl ?_
    refine gi_Ev_ige rfl (fun c1 => ?_) (fun c1 => ?_)
    · rw [if_pos c1] at hf
      exact e_X6_image_77 _ h _ _ _ hf
    · rw [if_neg c1] at hf
      refine gi_EvN 1 (pc' := 52) (lv' := [some (.ref x0), some (.int x1), some (.int x2)]) (st' := [.ref x0]) (h' := h) rfl ?_
      obtain ⟨y2, qy2, hf⟩ := gi_bind hf
      refine gi_EvF rfl (gi_fR_inv qy2) ?_
      refine gi_EvN 8 (pc' := 65) (lv' := [some (.ref x0), some (.int x1), some (.int x2)]) (st' := [.ref x0, .int (((100 * x1) + 63) + x2), .ref y2]) (h' := h) rfl ?_
      obtain ⟨y3, qy3, hf⟩ := gi_bind hf
      refine gi_EvF rfl (gi_fR_inv qy3) ?_
      refine gi_EvN 1 (pc' := 69) (lv' := [some (.ref x0), some (.int x1), some (.int x2)]) (st' := [.int x2, .ref y3, .int (((100 * x1) + 63) + x2), .ref y2]) (h' := h) rfl ?_
      obtain ⟨y4, qy4, hf⟩ := gi_bind hf
      refine gi_EvAi rfl qy4 ?_
      obtain ⟨h5, qh5, hf⟩ := gi_bind hf
      refine gi_EvPi rfl qh5 ?_
      refine gi_EvN 2 (pc' := 45) (lv' := [some (.ref x0), some (.int x1), some (.int (x2 + 1))]) (st' := []) (h' := h5) rfl ?_
      exact ih  _ _  _  _ _ hf
def f_X6_image_14 : Nat → gi_H → Nat → Int32 → Int32 → Option (Int32 × gi_H)
  | 0, _, _, _, _ => none
  | n + 1, h, x0, x1, x2 => if 63 ≤ x2 then f_X6_image_45 gi_F h x0 x1 0
  else (gi_fR h x0 6 14).bind fun y2 => (gi_fR h x0 6 0).bind fun y3 => (gi_ai h y3 0 x2).bind fun y4 => (gi_pi h y2 0 ((100 * x1) + x2) y4).bind fun h5 => f_X6_image_14 n h5 x0 x1 (x2 + 1)
set_option maxRecDepth 20000 in
set_option maxHeartbeats 2000000 in
theorem e_X6_image_14 : ∀ (n : Nat) (h : gi_H) (x0 : Nat) (x1 : Int32) (x2 : Int32) (r : (Int32 × gi_H)), f_X6_image_14 n h x0 x1 x2 = some r → gi_Ev M_X6_image 14 [some (.ref x0), some (.int x1), some (.int x2)] [] h (some (.int r.1), r.2) := by
  intro n
  induction n with
  | zero =>
    intro h x0 x1 x2 r hf
    unfold f_X6_image_14 at hf
    cases hf
  | succ n ih =>
    intro h x0 x1 x2 r hf
    unfold f_X6_image_14 at hf
    refine gi_EvN 2 (pc' := 17) (lv' := [some (.ref x0), some (.int x1), some (.int x2)]) (st' := [.int 63, .int x2]) (h' := h) rfl ?_
    refine gi_Ev_ige rfl (fun c1 => ?_) (fun c1 => ?_)
    · rw [if_pos c1] at hf
      refine gi_EvN 2 (pc' := 45) (lv' := [some (.ref x0), some (.int x1), some (.int 0)]) (st' := []) (h' := h) rfl ?_
      exact e_X6_image_45 gi_F h _ _ _ _ hf
    · rw [if_neg c1] at hf
      refine gi_EvN 1 (pc' := 21) (lv' := [some (.ref x0), some (.int x1), some (.int x2)]) (st' := [.ref x0]) (h' := h) rfl ?_
      obtain ⟨y2, qy2, hf⟩ := gi_bind hf
      refine gi_EvF rfl (gi_fR_inv qy2) ?_
      refine gi_EvN 6 (pc' := 31) (lv' := [some (.ref x0), some (.int x1), some (.int x2)]) (st' := [.ref x0, .int ((100 * x1) + x2), .ref y2]) (h' := h) rfl ?_
      obtain ⟨y3, qy3, hf⟩ := gi_bind hf
      refine gi_EvF rfl (gi_fR_inv qy3) ?_
      refine gi_EvN 1 (pc' := 35) (lv' := [some (.ref x0), some (.int x1), some (.int x2)]) (st' := [.int x2, .ref y3, .int ((100 * x1) + x2), .ref y2]) (h' := h) rfl ?_
      obtain ⟨y4, qy4, hf⟩ := gi_bind hf
      refine gi_EvAi rfl qy4 ?_
      obtain ⟨h5, qh5, hf⟩ := gi_bind hf
      refine gi_EvPi rfl qh5 ?_
      refine gi_EvN 2 (pc' := 14) (lv' := [some (.ref x0), some (.int x1), some (.int (x2 + 1))]) (st' := []) (h' := h5) rfl ?_
      exact ih  _ _  _  _ _ hf
def f_X6_image (h : gi_H) (x0 : Nat) (x1 : Int32) : Option (Int32 × gi_H) :=
  (f_X6_in x1 0 1).bind fun y1 => if y1 = 0 then some ((-2), h)
  else f_X6_image_14 gi_F h x0 x1 0
set_option maxRecDepth 20000 in
set_option maxHeartbeats 2000000 in
theorem e_X6_image (h : gi_H) (x0 : Nat) (x1 : Int32) (r : (Int32 × gi_H)) (hf : f_X6_image h x0 x1 = some r) : gi_Ev M_X6_image 0 [some (.ref x0), some (.int x1), none] [] h (some (.int r.1), r.2) := by
  unfold f_X6_image at hf
  refine gi_EvN 3 (pc' := 3) (lv' := [some (.ref x0), some (.int x1), none]) (st' := [.int 1, .int 0, .int x1]) (h' := h) rfl ?_
  obtain ⟨y1, qy1, hf⟩ := gi_bind hf
  refine gi_EvCS rfl rfl rfl rfl rfl (e_X6_in h _ _ _ _ qy1) ?_
  show gi_Ev M_X6_image 6 [some (.ref x0), some (.int x1), none] [.int y1] h _
  refine gi_Ev_ne rfl (fun c2 => ?_) (fun c2 => ?_)
  · rw [if_pos c2] at hf
    refine gi_EvN 1 (pc' := 11) (lv' := [some (.ref x0), some (.int x1), none]) (st' := [.int (-2)]) (h' := h) rfl ?_
    cases hf
    exact gi_EvR rfl rfl
  · rw [if_neg c2] at hf
    refine gi_EvN 2 (pc' := 14) (lv' := [some (.ref x0), some (.int x1), some (.int 0)]) (st' := []) (h' := h) rfl ?_
    exact e_X6_image_14 gi_F h _ _ _ _ hf
/-! X6_restore AdmiralGuineaModel.restore(I)I -/
def f_X6_restore_89 (h : gi_H) (x0 : Nat) (x1 : Int32) : Option (Int32 × gi_H) :=
  (gi_fR h x0 6 14).bind fun y1 => (gi_ai h y1 0 ((100 * x1) + 90)).bind fun y2 => (gi_fp h x0 6 2 (.int y2)).bind fun h3 => some (1, h3)
set_option maxRecDepth 20000 in
set_option maxHeartbeats 2000000 in
theorem e_X6_restore_89 (g2 : Option Value) (h : gi_H) (x0 : Nat) (x1 : Int32) (r : (Int32 × gi_H)) (hf : f_X6_restore_89 h x0 x1 = some r) : gi_Ev M_X6_restore 89 [some (.ref x0), some (.int x1), g2] [] h (some (.int r.1), r.2) := by
  unfold f_X6_restore_89 at hf
  refine gi_EvN 2 (pc' := 91) (lv' := [some (.ref x0), some (.int x1), g2]) (st' := [.ref x0, .ref x0]) (h' := h) rfl ?_
  obtain ⟨y1, qy1, hf⟩ := gi_bind hf
  refine gi_EvF rfl (gi_fR_inv qy1) ?_
  refine gi_EvN 5 (pc' := 101) (lv' := [some (.ref x0), some (.int x1), g2]) (st' := [.int ((100 * x1) + 90), .ref y1, .ref x0]) (h' := h) rfl ?_
  obtain ⟨y2, qy2, hf⟩ := gi_bind hf
  refine gi_EvAi rfl qy2 ?_
  obtain ⟨h3, qh3, hf⟩ := gi_bind hf
  refine gi_EvFp rfl rfl qh3 ?_
  refine gi_EvN 1 (pc' := 106) (lv' := [some (.ref x0), some (.int x1), g2]) (st' := [.int 1]) (h' := h3) rfl ?_
  cases hf
  exact gi_EvR rfl rfl
def f_X6_restore_57 : Nat → gi_H → Nat → Int32 → Int32 → Option (Int32 × gi_H)
  | 0, _, _, _, _ => none
  | n + 1, h, x0, x1, x2 => if 24 ≤ x2 then f_X6_restore_89 h x0 x1
  else (gi_fR h x0 6 3).bind fun y2 => (gi_fR h x0 6 14).bind fun y3 => (gi_ai h y3 0 (((100 * x1) + 63) + x2)).bind fun y4 => (gi_pi h y2 0 x2 y4).bind fun h5 => f_X6_restore_57 n h5 x0 x1 (x2 + 1)
set_option maxRecDepth 20000 in
set_option maxHeartbeats 2000000 in
theorem e_X6_restore_57 : ∀ (n : Nat) (h : gi_H) (x0 : Nat) (x1 : Int32) (x2 : Int32) (r : (Int32 × gi_H)), f_X6_restore_57 n h x0 x1 x2 = some r → gi_Ev M_X6_restore 57 [some (.ref x0), some (.int x1), some (.int x2)] [] h (some (.int r.1), r.2) := by
  intro n
  induction n with
  | zero =>
    intro h x0 x1 x2 r hf
    unfold f_X6_restore_57 at hf
    cases hf
  | succ n ih =>
    intro h x0 x1 x2 r hf
    unfold f_X6_restore_57 at hf
    refine gi_EvN 2 (pc' := 60) (lv' := [some (.ref x0), some (.int x1), some (.int x2)]) (st' := [.int 24, .int x2]) (h' := h) rfl ?_
    refine gi_Ev_ige rfl (fun c1 => ?_) (fun c1 => ?_)
    · rw [if_pos c1] at hf
      exact e_X6_restore_89 _ h _ _ _ hf
    · rw [if_neg c1] at hf
      refine gi_EvN 1 (pc' := 64) (lv' := [some (.ref x0), some (.int x1), some (.int x2)]) (st' := [.ref x0]) (h' := h) rfl ?_
      obtain ⟨y2, qy2, hf⟩ := gi_bind hf
      refine gi_EvF rfl (gi_fR_inv qy2) ?_
      refine gi_EvN 2 (pc' := 69) (lv' := [some (.ref x0), some (.int x1), some (.int x2)]) (st' := [.ref x0, .int x2, .ref y2]) (h' := h) rfl ?_
      obtain ⟨y3, qy3, hf⟩ := gi_bind hf
      refine gi_EvF rfl (gi_fR_inv qy3) ?_
      refine gi_EvN 7 (pc' := 81) (lv' := [some (.ref x0), some (.int x1), some (.int x2)]) (st' := [.int (((100 * x1) + 63) + x2), .ref y3, .int x2, .ref y2]) (h' := h) rfl ?_
      obtain ⟨y4, qy4, hf⟩ := gi_bind hf
      refine gi_EvAi rfl qy4 ?_
      obtain ⟨h5, qh5, hf⟩ := gi_bind hf
      refine gi_EvPi rfl qh5 ?_
      refine gi_EvN 2 (pc' := 57) (lv' := [some (.ref x0), some (.int x1), some (.int (x2 + 1))]) (st' := []) (h' := h5) rfl ?_
      exact ih  _ _  _  _ _ hf
def f_X6_restore_26 : Nat → gi_H → Nat → Int32 → Int32 → Option (Int32 × gi_H)
  | 0, _, _, _, _ => none
  | n + 1, h, x0, x1, x2 => if 63 ≤ x2 then f_X6_restore_57 gi_F h x0 x1 0
  else (gi_fR h x0 6 0).bind fun y2 => (gi_fR h x0 6 14).bind fun y3 => (gi_ai h y3 0 ((100 * x1) + x2)).bind fun y4 => (gi_pi h y2 0 x2 y4).bind fun h5 => f_X6_restore_26 n h5 x0 x1 (x2 + 1)
set_option maxRecDepth 20000 in
set_option maxHeartbeats 2000000 in
theorem e_X6_restore_26 : ∀ (n : Nat) (h : gi_H) (x0 : Nat) (x1 : Int32) (x2 : Int32) (r : (Int32 × gi_H)), f_X6_restore_26 n h x0 x1 x2 = some r → gi_Ev M_X6_restore 26 [some (.ref x0), some (.int x1), some (.int x2)] [] h (some (.int r.1), r.2) := by
  intro n
  induction n with
  | zero =>
    intro h x0 x1 x2 r hf
    unfold f_X6_restore_26 at hf
    cases hf
  | succ n ih =>
    intro h x0 x1 x2 r hf
    unfold f_X6_restore_26 at hf
    refine gi_EvN 2 (pc' := 29) (lv' := [some (.ref x0), some (.int x1), some (.int x2)]) (st' := [.int 63, .int x2]) (h' := h) rfl ?_
    refine gi_Ev_ige rfl (fun c1 => ?_) (fun c1 => ?_)
    · rw [if_pos c1] at hf
      refine gi_EvN 2 (pc' := 57) (lv' := [some (.ref x0), some (.int x1), some (.int 0)]) (st' := []) (h' := h) rfl ?_
      exact e_X6_restore_57 gi_F h _ _ _ _ hf
    · rw [if_neg c1] at hf
      refine gi_EvN 1 (pc' := 33) (lv' := [some (.ref x0), some (.int x1), some (.int x2)]) (st' := [.ref x0]) (h' := h) rfl ?_
      obtain ⟨y2, qy2, hf⟩ := gi_bind hf
      refine gi_EvF rfl (gi_fR_inv qy2) ?_
      refine gi_EvN 2 (pc' := 38) (lv' := [some (.ref x0), some (.int x1), some (.int x2)]) (st' := [.ref x0, .int x2, .ref y2]) (h' := h) rfl ?_
      obtain ⟨y3, qy3, hf⟩ := gi_bind hf
      refine gi_EvF rfl (gi_fR_inv qy3) ?_
      refine gi_EvN 5 (pc' := 47) (lv' := [some (.ref x0), some (.int x1), some (.int x2)]) (st' := [.int ((100 * x1) + x2), .ref y3, .int x2, .ref y2]) (h' := h) rfl ?_
      obtain ⟨y4, qy4, hf⟩ := gi_bind hf
      refine gi_EvAi rfl qy4 ?_
      obtain ⟨h5, qh5, hf⟩ := gi_bind hf
      refine gi_EvPi rfl qh5 ?_
      refine gi_EvN 2 (pc' := 26) (lv' := [some (.ref x0), some (.int x1), some (.int (x2 + 1))]) (st' := []) (h' := h5) rfl ?_
      exact ih  _ _  _  _ _ hf
def f_X6_restore (h : gi_H) (x0 : Nat) (x1 : Int32) : Option (Int32 × gi_H) :=
  (f_X6_in x1 0 1).bind fun y1 => if y1 = 0 then some ((-2), h)
  else (gi_fR h x0 6 15).bind fun y3 => (gi_ai h y3 2 x1).bind fun y4 => if y4 = 0 then some ((-3), h)
  else f_X6_restore_26 gi_F h x0 x1 0
set_option maxRecDepth 20000 in
set_option maxHeartbeats 2000000 in
theorem e_X6_restore (h : gi_H) (x0 : Nat) (x1 : Int32) (r : (Int32 × gi_H)) (hf : f_X6_restore h x0 x1 = some r) : gi_Ev M_X6_restore 0 [some (.ref x0), some (.int x1), none] [] h (some (.int r.1), r.2) := by
  unfold f_X6_restore at hf
  refine gi_EvN 3 (pc' := 3) (lv' := [some (.ref x0), some (.int x1), none]) (st' := [.int 1, .int 0, .int x1]) (h' := h) rfl ?_
  obtain ⟨y1, qy1, hf⟩ := gi_bind hf
  refine gi_EvCS rfl rfl rfl rfl rfl (e_X6_in h _ _ _ _ qy1) ?_
  show gi_Ev M_X6_restore 6 [some (.ref x0), some (.int x1), none] [.int y1] h _
  refine gi_Ev_ne rfl (fun c2 => ?_) (fun c2 => ?_)
  · rw [if_pos c2] at hf
    refine gi_EvN 1 (pc' := 11) (lv' := [some (.ref x0), some (.int x1), none]) (st' := [.int (-2)]) (h' := h) rfl ?_
    cases hf
    exact gi_EvR rfl rfl
  · rw [if_neg c2] at hf
    refine gi_EvN 1 (pc' := 13) (lv' := [some (.ref x0), some (.int x1), none]) (st' := [.ref x0]) (h' := h) rfl ?_
    obtain ⟨y3, qy3, hf⟩ := gi_bind hf
    refine gi_EvF rfl (gi_fR_inv qy3) ?_
    refine gi_EvN 1 (pc' := 17) (lv' := [some (.ref x0), some (.int x1), none]) (st' := [.int x1, .ref y3]) (h' := h) rfl ?_
    obtain ⟨y4, qy4, hf⟩ := gi_bind hf
    refine gi_EvBi rfl qy4 ?_
    refine gi_Ev_ne rfl (fun c5 => ?_) (fun c5 => ?_)
    · rw [if_pos c5] at hf
      refine gi_EvN 1 (pc' := 23) (lv' := [some (.ref x0), some (.int x1), none]) (st' := [.int (-3)]) (h' := h) rfl ?_
      cases hf
      exact gi_EvR rfl rfl
    · rw [if_neg c5] at hf
      refine gi_EvN 2 (pc' := 26) (lv' := [some (.ref x0), some (.int x1), some (.int 0)]) (st' := []) (h' := h) rfl ?_
      exact e_X6_restore_26 gi_F h _ _ _ _ hf
