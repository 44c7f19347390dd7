/-! X6_allOn AdmiralGuineaModel.allOn(I)I -/
def f_X6_allOn_4 (h : gi_H) : Nat → Nat → Int32 → Int32 → Int32 → Option Int32
  | 0, _, _, _, _ => none
  | n + 1, x0, x1, x2, x3 => if 4 ≤ x3 then some (x2)
  else if gi_is h x0 6 = true then (f_X6_gainsBy h x0 x3 x1 (-6) 0).bind fun y2 => f_X6_allOn_4 h n x0 x1 (x2 + y2) (x3 + 1) else none
set_option maxRecDepth 20000 in
set_option maxHeartbeats 2000000 in
theorem e_X6_allOn_4 (h : gi_H) : ∀ (n : Nat) (x0 : Nat) (x1 : Int32) (x2 : Int32) (x3 : Int32) (r : Int32), f_X6_allOn_4 h n x0 x1 x2 x3 = some r → gi_Ev M_X6_allOn 4 [some (.ref x0), some (.int x1), some (.int x2), some (.int x3)] [] h (some (.int r), h) := by
  intro n
  induction n with
  | zero =>
    intro x0 x1 x2 x3 r hf
    unfold f_X6_allOn_4 at hf
    cases hf
  | succ n ih =>
    intro x0 x1 x2 x3 r hf
    unfold f_X6_allOn_4 at hf
    refine gi_EvN 2 (pc' := 6) (lv' := [some (.ref x0), some (.int x1), some (.int x2), some (.int x3)]) (st' := [.int 4, .int x3]) (h' := h) rfl ?_
    refine gi_Ev_ige rfl (fun c1 => ?_) (fun c1 => ?_)
    · rw [if_pos c1] at hf
      refine gi_EvN 1 (pc' := 28) (lv' := [some (.ref x0), some (.int x1), some (.int x2), some (.int x3)]) (st' := [.int x2]) (h' := h) rfl ?_
      cases hf
      exact gi_EvR rfl rfl
    · rw [if_neg c1] at hf
      refine gi_EvN 6 (pc' := 16) (lv' := [some (.ref x0), some (.int x1), some (.int x2), some (.int x3)]) (st' := [.int 0, .int (-6), .int x1, .int x3, .ref x0, .int x2]) (h' := h) rfl ?_
      by_cases c3 : gi_is h x0 6 = true
      rotate_left
      · rw [if_neg c3] at hf; cases hf
      rw [if_pos c3] at hf
      obtain ⟨y2, qy2, hf⟩ := gi_bind hf
      refine gi_EvCV rfl rfl c3 rfl rfl (e_X6_gainsBy h _ _ _ _ _ _ qy2) ?_
      show gi_Ev M_X6_allOn 19 [some (.ref x0), some (.int x1), some (.int x2), some (.int x3)] [.int y2, .int x2] h _
      refine gi_EvN 4 (pc' := 4) (lv' := [some (.ref x0), some (.int x1), some (.int (x2 + y2)), some (.int (x3 + 1))]) (st' := []) (h' := h) rfl ?_
      exact ih   _  _  _  _ _ hf
def f_X6_allOn (h : gi_H) (x0 : Nat) (x1 : Int32) : Option Int32 :=
  f_X6_allOn_4 h gi_F x0 x1 0 0
set_option maxRecDepth 20000 in
set_option maxHeartbeats 2000000 in
theorem e_X6_allOn (h : gi_H) (x0 : Nat) (x1 : Int32) (r : Int32) (hf : f_X6_allOn h x0 x1 = some r) : gi_Ev M_X6_allOn 0 [some (.ref x0), some (.int x1), none, none] [] h (some (.int r), h) := by
  unfold f_X6_allOn at hf
  refine gi_EvN 4 (pc' := 4) (lv' := [some (.ref x0), some (.int x1), some (.int 0), some (.int 0)]) (st' := []) (h' := h) rfl ?_
  exact e_X6_allOn_4 h gi_F _ _ _ _ _ hf
/-! X6_ruin AdmiralGuineaModel.ruin(III)J -/
def f_X6_ruin_109 (h : gi_H) (k_54 : Nat → Int32 → Int32 → Int64 → Int64 → Int32 → Option Int64) (x0 : Nat) (x1 : Int32) (x3 : Int32) (x4 : Int64) (x10 : Int32) (t0 : Int64) (t1 : Int64) : Option Int64 :=
  k_54 x0 x1 x3 x4 (t0 + t1) (x10 + 1)
set_option maxRecDepth 20000 in
set_option maxHeartbeats 2000000 in
theorem e_X6_ruin_109 (h : gi_H) (k_54 : Nat → Int32 → Int32 → Int64 → Int64 → Int32 → Option Int64) (hk_54 : ∀ (g2 : Option Value) (g5 : Option Value) (g7 : Option Value) (g8 : Option Value) (g9 : Option Value) (g11 : Option Value) (g12 : Option Value) (g13 : Option Value) (g14 : Option Value) (g15 : Option Value) (g16 : Option Value) (x0 : Nat) (x1 : Int32) (x3 : Int32) (x4 : Int64) (x6 : Int64) (x10 : Int32) (r : Int64), k_54 x0 x1 x3 x4 x6 x10 = some r → gi_Ev M_X6_ruin 54 [some (.ref x0), some (.int x1), g2, some (.int x3), some (.long x4), g5, some (.long x6), g7, g8, g9, some (.int x10), g11, g12, g13, g14, g15, g16] [] h (some (.long r), h)) (g2 : Option Value) (g5 : Option Value) (g6 : Option Value) (g7 : Option Value) (g8 : Option Value) (g9 : Option Value) (g11 : Option Value) (g12 : Option Value) (g13 : Option Value) (g14 : Option Value) (g15 : Option Value) (g16 : Option Value) (x0 : Nat) (x1 : Int32) (x3 : Int32) (x4 : Int64) (x10 : Int32) (t0 : Int64) (t1 : Int64) (r : Int64) (hf : f_X6_ruin_109 h k_54 x0 x1 x3 x4 x10 t0 t1 = some r) : gi_Ev M_X6_ruin 109 [some (.ref x0), some (.int x1), g2, some (.int x3), some (.long x4), g5, g6, g7, g8, g9, some (.int x10), g11, g12, g13, g14, g15, g16] [.long t1, .long t0] h (some (.long r), h) := by
  unfold f_X6_ruin_109 at hf
  refine gi_EvN 4 (pc' := 54) (lv' := [some (.ref x0), some (.int x1), g2, some (.int x3), some (.long x4), (gi_cl g5), some (.long (t0 + t1)), none, g8, (gi_cl g9), some (.int (x10 + 1)), g11, g12, g13, g14, g15, g16]) (st' := []) (h' := h) rfl ?_
  exact hk_54 _ _ _ _ _ _ _ _ _ _ _  _  _  _  _  _  _ _ hf
def f_X6_ruin_118 (h : gi_H) (x3 : Int32) (x4 : Int64) (x6 : Int64) : Option Int64 :=
  (f_X6_part x6 x4 x3).bind fun y1 => some (y1)
set_option maxRecDepth 20000 in
set_option maxHeartbeats 2000000 in
theorem e_X6_ruin_118 (h : gi_H) (g0 : Option Value) (g1 : Option Value) (g2 : Option Value) (g5 : Option Value) (g7 : Option Value) (g8 : Option Value) (g9 : Option Value) (g10 : Option Value) (g11 : Option Value) (g12 : Option Value) (g13 : Option Value) (g14 : Option Value) (g15 : Option Value) (g16 : Option Value) (x3 : Int32) (x4 : Int64) (x6 : Int64) (r : Int64) (hf : f_X6_ruin_118 h x3 x4 x6 = some r) : gi_Ev M_X6_ruin 118 [g0, g1, g2, some (.int x3), some (.long x4), g5, some (.long x6), g7, g8, g9, g10, g11, g12, g13, g14, g15, g16] [] h (some (.long r), h) := by
  unfold f_X6_ruin_118 at hf
  refine gi_EvN 3 (pc' := 123) (lv' := [g0, g1, g2, some (.int x3), some (.long x4), g5, some (.long x6), g7, g8, g9, g10, g11, g12, g13, g14, g15, g16]) (st' := [.int x3, .long x4, .long x6]) (h' := h) rfl ?_
  obtain ⟨y1, qy1, hf⟩ := gi_bind hf
  refine gi_EvCS rfl rfl rfl rfl rfl (e_X6_part h _ _ _ _ qy1) ?_
  show gi_Ev M_X6_ruin 126 [g0, g1, g2, some (.int x3), some (.long x4), g5, some (.long x6), g7, g8, g9, g10, g11, g12, g13, g14, g15, g16] [.long y1] h _
  cases hf
  exact gi_EvR rfl rfl
def f_X6_ruin_54 (h : gi_H) : Nat → Nat → Int32 → Int32 → Int64 → Int64 → Int32 → Option Int64
  | 0, _, _, _, _, _, _ => none
  | n + 1, x0, x1, x3, x4, x6, x10 => if 6 ≤ x10 then f_X6_ruin_118 h x3 x4 x6
  else (gi_fR h x0 6 0).bind fun y2 => (gi_ai h y2 0 12).bind fun y3 => (f_X6_has y3 x10).bind fun y4 => if y4 = 0 then if gi_is h x0 6 = true then (f_X6_allOn h x0 x10).bind fun y6 => (gi_fR h x0 6 0).bind fun y8 => (gi_ai h y8 0 x10).bind fun y9 => (f_X6_power (10 - (Int32.toInt64 y9)) x1).bind fun y10 => f_X6_ruin_109 h (f_X6_ruin_54 h n) x0 x1 x3 x4 x10 x6 ((Int32.toInt64 y6) * (x4 - y10)) else none
  else f_X6_ruin_109 h (f_X6_ruin_54 h n) x0 x1 x3 x4 x10 x6 0
set_option maxRecDepth 20000 in
set_option maxHeartbeats 2000000 in
theorem e_X6_ruin_54 (h : gi_H) : ∀ (n : Nat) (g2 : Option Value) (g5 : Option Value) (g7 : Option Value) (g8 : Option Value) (g9 : Option Value) (g11 : Option Value) (g12 : Option Value) (g13 : Option Value) (g14 : Option Value) (g15 : Option Value) (g16 : Option Value) (x0 : Nat) (x1 : Int32) (x3 : Int32) (x4 : Int64) (x6 : Int64) (x10 : Int32) (r : Int64), f_X6_ruin_54 h n x0 x1 x3 x4 x6 x10 = some r → gi_Ev M_X6_ruin 54 [some (.ref x0), some (.int x1), g2, some (.int x3), some (.long x4), g5, some (.long x6), g7, g8, g9, some (.int x10), g11, g12, g13, g14, g15, g16] [] h (some (.long r), h) := by
  intro n
  induction n with
  | zero =>
    intro g2 g5 g7 g8 g9 g11 g12 g13 g14 g15 g16 x0 x1 x3 x4 x6 x10 r hf
    unfold f_X6_ruin_54 at hf
    cases hf
  | succ n ih =>
    intro g2 g5 g7 g8 g9 g11 g12 g13 g14 g15 g16 x0 x1 x3 x4 x6 x10 r hf
    unfold f_X6_ruin_54 at hf
    refine gi_EvN 2 (pc' := 58) (lv' := [some (.ref x0), some (.int x1), g2, some (.int x3), some (.long x4), g5, some (.long x6), g7, g8, g9, some (.int x10), g11, g12, g13, g14, g15, g16]) (st' := [.int 6, .int x10]) (h' := h) rfl ?_
    refine gi_Ev_ige rfl (fun c1 => ?_) (fun c1 => ?_)
    · rw [if_pos c1] at hf
      exact e_X6_ruin_118 h _ _ _ _ _ _ _ _ _ _ _ _ _ _ _ _ _ _ hf
    · rw [if_neg c1] at hf
      refine gi_EvN 2 (pc' := 64) (lv' := [some (.ref x0), some (.int x1), g2, some (.int x3), some (.long x4), g5, some (.long x6), g7, g8, g9, some (.int x10), g11, g12, g13, g14, g15, g16]) (st' := [.ref x0, .long x6]) (h' := h) rfl ?_
      obtain ⟨y2, qy2, hf⟩ := gi_bind hf
      refine gi_EvF rfl (gi_fR_inv qy2) ?_
      refine gi_EvN 1 (pc' := 69) (lv' := [some (.ref x0), some (.int x1), g2, some (.int x3), some (.long x4), g5, some (.long x6), g7, g8, g9, some (.int x10), g11, g12, g13, g14, g15, g16]) (st' := [.int 12, .ref y2, .long x6]) (h' := h) rfl ?_
      obtain ⟨y3, qy3, hf⟩ := gi_bind hf
      refine gi_EvAi rfl qy3 ?_
      refine gi_EvN 1 (pc' := 72) (lv' := [some (.ref x0), some (.int x1), g2, some (.int x3), some (.long x4), g5, some (.long x6), g7, g8, g9, some (.int x10), g11, g12, g13, g14, g15, g16]) (st' := [.int x10, .int y3, .long x6]) (h' := h) rfl ?_
      obtain ⟨y4, qy4, hf⟩ := gi_bind hf
      refine gi_EvCS rfl rfl rfl rfl rfl (e_X6_has h _ _ _ qy4) ?_
      show gi_Ev M_X6_ruin 75 [some (.ref x0), some (.int x1), g2, some (.int x3), some (.long x4), g5, some (.long x6), g7, g8, g9, some (.int x10), g11, g12, g13, g14, g15, g16] [.int y4, .long x6] h _
      refine gi_Ev_eq rfl (fun c5 => ?_) (fun c5 => ?_)
      · rw [if_pos c5] at hf
        refine gi_EvN 2 (pc' := 85) (lv' := [some (.ref x0), some (.int x1), g2, some (.int x3), some (.long x4), g5, some (.long x6), g7, g8, g9, some (.int x10), g11, g12, g13, g14, g15, g16]) (st' := [.int x10, .ref x0, .long x6]) (h' := h) rfl ?_
        by_cases c7 : gi_is h x0 6 = true
        rotate_left
        · rw [if_neg c7] at hf; cases hf
        rw [if_pos c7] at hf
        obtain ⟨y6, qy6, hf⟩ := gi_bind hf
        refine gi_EvCV rfl rfl c7 rfl rfl (e_X6_allOn h _ _ _ qy6) ?_
        show gi_Ev M_X6_ruin 88 [some (.ref x0), some (.int x1), g2, some (.int x3), some (.long x4), g5, some (.long x6), g7, g8, g9, some (.int x10), g11, g12, g13, g14, g15, g16] [.int y6, .long x6] h _
        refine gi_EvN 4 (pc' := 95) (lv' := [some (.ref x0), some (.int x1), g2, some (.int x3), some (.long x4), g5, some (.long x6), g7, g8, g9, some (.int x10), g11, g12, g13, g14, g15, g16]) (st' := [.ref x0, .long 10, .long x4, .long (Int32.toInt64 y6), .long x6]) (h' := h) rfl ?_
        obtain ⟨y8, qy8, hf⟩ := gi_bind hf
        refine gi_EvF rfl (gi_fR_inv qy8) ?_
        refine gi_EvN 1 (pc' := 100) (lv' := [some (.ref x0), some (.int x1), g2, some (.int x3), some (.long x4), g5, some (.long x6), g7, g8, g9, some (.int x10), g11, g12, g13, g14, g15, g16]) (st' := [.int x10, .ref y8, .long 10, .long x4, .long (Int32.toInt64 y6), .long x6]) (h' := h) rfl ?_
        obtain ⟨y9, qy9, hf⟩ := gi_bind hf
        refine gi_EvAi rfl qy9 ?_
        refine gi_EvN 3 (pc' := 104) (lv' := [some (.ref x0), some (.int x1), g2, some (.int x3), some (.long x4), g5, some (.long x6), g7, g8, g9, some (.int x10), g11, g12, g13, g14, g15, g16]) (st' := [.int x1, .long (10 - (Int32.toInt64 y9)), .long x4, .long (Int32.toInt64 y6), .long x6]) (h' := h) rfl ?_
        obtain ⟨y10, qy10, hf⟩ := gi_bind hf
        refine gi_EvCS rfl rfl rfl rfl rfl (e_X6_power h _ _ _ qy10) ?_
        show gi_Ev M_X6_ruin 107 [some (.ref x0), some (.int x1), g2, some (.int x3), some (.long x4), g5, some (.long x6), g7, g8, g9, some (.int x10), g11, g12, g13, g14, g15, g16] [.long y10, .long x4, .long (Int32.toInt64 y6), .long x6] h _
        refine gi_EvN 2 (pc' := 109) (lv' := [some (.ref x0), some (.int x1), g2, some (.int x3), some (.long x4), g5, some (.long x6), g7, g8, g9, some (.int x10), g11, g12, g13, g14, g15, g16]) (st' := [.long ((Int32.toInt64 y6) * (x4 - y10)), .long x6]) (h' := h) rfl ?_
        exact e_X6_ruin_109 h _ ih _ _ _ _ _ _ _ _ _ _ _ _ _ _ _ _ _ _ _ _ hf
      · rw [if_neg c5] at hf
        refine gi_EvN 2 (pc' := 109) (lv' := [some (.ref x0), some (.int x1), g2, some (.int x3), some (.long x4), g5, some (.long x6), g7, g8, g9, some (.int x10), g11, g12, g13, g14, g15, g16]) (st' := [.long 0, .long x6]) (h' := h) rfl ?_
        exact e_X6_ruin_109 h _ ih _ _ _ _ _ _ _ _ _ _ _ _ _ _ _ _ _ _ _ _ hf
def f_X6_ruin_236 (h : gi_H) (k_153 : Nat → Int32 → Int32 → Int64 → Int64 → Int64 → Int32 → Option Int64) (k_169 : Nat → Int32 → Int32 → Int64 → Int64 → Int64 → Int32 → Int64 → Int32 → Int32 → Option Int64) (x0 : Nat) (x1 : Int32) (x3 : Int32) (x4 : Int64) (x6 : Int64) (x8 : Int64) (x10 : Int32) (x13 : Int32) (x14 : Int32) (t0 : Int64) (t1 : Int64) : Option Int64 :=
  (f_X6_has x10 x14).bind fun y1 => if y1 = 0 then k_169 x0 x1 x3 x4 x6 x8 x10 (t0 * t1) (x13 + 0) (x14 + 1)
  else if gi_is h x0 6 = true then (f_X6_allOn h x0 x14).bind fun y3 => k_169 x0 x1 x3 x4 x6 x8 x10 (t0 * t1) (x13 + y3) (x14 + 1) else none
set_option maxRecDepth 20000 in
set_option maxHeartbeats 2000000 in
theorem e_X6_ruin_236 (h : gi_H) (k_153 : Nat → Int32 → Int32 → Int64 → Int64 → Int64 → Int32 → Option Int64) (hk_153 : ∀ (g2 : Option Value) (g5 : Option Value) (g7 : Option Value) (g9 : Option Value) (g11 : Option Value) (g12 : Option Value) (g13 : Option Value) (g14 : Option Value) (g15 : Option Value) (g16 : Option Value) (x0 : Nat) (x1 : Int32) (x3 : Int32) (x4 : Int64) (x6 : Int64) (x8 : Int64) (x10 : Int32) (r : Int64), k_153 x0 x1 x3 x4 x6 x8 x10 = some r → gi_Ev M_X6_ruin 153 [some (.ref x0), some (.int x1), g2, some (.int x3), some (.long x4), g5, some (.long x6), g7, some (.long x8), g9, some (.int x10), g11, g12, g13, g14, g15, g16] [] h (some (.long r), h)) (k_169 : Nat → Int32 → Int32 → Int64 → Int64 → Int64 → Int32 → Int64 → Int32 → Int32 → Option Int64) (hk_169 : ∀ (g2 : Option Value) (g5 : Option Value) (g7 : Option Value) (g9 : Option Value) (g12 : Option Value) (g15 : Option Value) (g16 : Option Value) (x0 : Nat) (x1 : Int32) (x3 : Int32) (x4 : Int64) (x6 : Int64) (x8 : Int64) (x10 : Int32) (x11 : Int64) (x13 : Int32) (x14 : Int32) (r : Int64), k_169 x0 x1 x3 x4 x6 x8 x10 x11 x13 x14 = some r → gi_Ev M_X6_ruin 169 [some (.ref x0), some (.int x1), g2, some (.int x3), some (.long x4), g5, some (.long x6), g7, some (.long x8), g9, some (.int x10), some (.long x11), g12, some (.int x13), some (.int x14), g15, g16] [] h (some (.long r), h)) (g2 : Option Value) (g5 : Option Value) (g7 : Option Value) (g9 : Option Value) (g11 : Option Value) (g12 : Option Value) (g15 : Option Value) (g16 : Option Value) (x0 : Nat) (x1 : Int32) (x3 : Int32) (x4 : Int64) (x6 : Int64) (x8 : Int64) (x10 : Int32) (x13 : Int32) (x14 : Int32) (t0 : Int64) (t1 : Int64) (r : Int64) (hf : f_X6_ruin_236 h k_153 k_169 x0 x1 x3 x4 x6 x8 x10 x13 x14 t0 t1 = some r) : gi_Ev M_X6_ruin 236 [some (.ref x0), some (.int x1), g2, some (.int x3), some (.long x4), g5, some (.long x6), g7, some (.long x8), g9, some (.int x10), g11, g12, some (.int x13), some (.int x14), g15, g16] [.long t1, .long t0] h (some (.long r), h) := by
  unfold f_X6_ruin_236 at hf
  refine gi_EvN 5 (pc' := 245) (lv' := [some (.ref x0), some (.int x1), g2, some (.int x3), some (.long x4), g5, some (.long x6), g7, some (.long x8), g9, some (.int x10), some (.long (t0 * t1)), none, some (.int x13), some (.int x14), g15, g16]) (st' := [.int x14, .int x10, .int x13]) (h' := h) rfl ?_
  obtain ⟨y1, qy1, hf⟩ := gi_bind hf
  refine gi_EvCS rfl rfl rfl rfl rfl (e_X6_has h _ _ _ qy1) ?_
  show gi_Ev M_X6_ruin 248 [some (.ref x0), some (.int x1), g2, some (.int x3), some (.long x4), g5, some (.long x6), g7, some (.long x8), g9, some (.int x10), some (.long (t0 * t1)), none, some (.int x13), some (.int x14), g15, g16] [.int y1, .int x13] h _
  refine gi_Ev_eq rfl (fun c2 => ?_) (fun c2 => ?_)
  · rw [if_pos c2] at hf
    refine gi_EvN 5 (pc' := 169) (lv' := [some (.ref x0), some (.int x1), g2, some (.int x3), some (.long x4), g5, some (.long x6), g7, some (.long x8), g9, some (.int x10), some (.long (t0 * t1)), none, some (.int (x13 + 0)), some (.int (x14 + 1)), g15, g16]) (st' := []) (h' := h) rfl ?_
    exact hk_169 _ _ _ _ _ _ _  _  _  _  _  _  _  _  _  _  _ _ hf
  · rw [if_neg c2] at hf
    refine gi_EvN 2 (pc' := 254) (lv' := [some (.ref x0), some (.int x1), g2, some (.int x3), some (.long x4), g5, some (.long x6), g7, some (.long x8), g9, some (.int x10), some (.long (t0 * t1)), none, some (.int x13), some (.int x14), g15, g16]) (st' := [.int x14, .ref x0, .int x13]) (h' := h) rfl ?_
    by_cases c4 : gi_is h x0 6 = true
    rotate_left
    · rw [if_neg c4] at hf; cases hf
    rw [if_pos c4] at hf
    obtain ⟨y3, qy3, hf⟩ := gi_bind hf
    refine gi_EvCV rfl rfl c4 rfl rfl (e_X6_allOn h _ _ _ qy3) ?_
    show gi_Ev M_X6_ruin 257 [some (.ref x0), some (.int x1), g2, some (.int x3), some (.long x4), g5, some (.long x6), g7, some (.long x8), g9, some (.int x10), some (.long (t0 * t1)), none, some (.int x13), some (.int x14), g15, g16] [.int y3, .int x13] h _
    refine gi_EvN 5 (pc' := 169) (lv' := [some (.ref x0), some (.int x1), g2, some (.int x3), some (.long x4), g5, some (.long x6), g7, some (.long x8), g9, some (.int x10), some (.long (t0 * t1)), none, some (.int (x13 + y3)), some (.int (x14 + 1)), g15, g16]) (st' := []) (h' := h) rfl ?_
    exact hk_169 _ _ _ _ _ _ _  _  _  _  _  _  _  _  _  _  _ _ hf
def f_X6_ruin_212 (h : gi_H) (k_153 : Nat → Int32 → Int32 → Int64 → Int64 → Int64 → Int32 → Option Int64) (k_169 : Nat → Int32 → Int32 → Int64 → Int64 → Int64 → Int32 → Int64 → Int32 → Int32 → Option Int64) (x0 : Nat) (x1 : Int32) (x3 : Int32) (x4 : Int64) (x6 : Int64) (x8 : Int64) (x10 : Int32) (x11 : Int64) (x13 : Int32) (x14 : Int32) (t0 : Int64) : Option Int64 :=
  (f_X6_has x10 x14).bind fun y1 => if y1 = 0 then f_X6_ruin_236 h k_153 k_169 x0 x1 x3 x4 x6 x8 x10 x13 x14 x11 t0
  else f_X6_ruin_236 h k_153 k_169 x0 x1 x3 x4 x6 x8 x10 x13 x14 x11 (x4 - t0)
set_option maxRecDepth 20000 in
set_option maxHeartbeats 2000000 in
theorem e_X6_ruin_212 (h : gi_H) (k_153 : Nat → Int32 → Int32 → Int64 → Int64 → Int64 → Int32 → Option Int64) (hk_153 : ∀ (g2 : Option Value) (g5 : Option Value) (g7 : Option Value) (g9 : Option Value) (g11 : Option Value) (g12 : Option Value) (g13 : Option Value) (g14 : Option Value) (g15 : Option Value) (g16 : Option Value) (x0 : Nat) (x1 : Int32) (x3 : Int32) (x4 : Int64) (x6 : Int64) (x8 : Int64) (x10 : Int32) (r : Int64), k_153 x0 x1 x3 x4 x6 x8 x10 = some r → gi_Ev M_X6_ruin 153 [some (.ref x0), some (.int x1), g2, some (.int x3), some (.long x4), g5, some (.long x6), g7, some (.long x8), g9, some (.int x10), g11, g12, g13, g14, g15, g16] [] h (some (.long r), h)) (k_169 : Nat → Int32 → Int32 → Int64 → Int64 → Int64 → Int32 → Int64 → Int32 → Int32 → Option Int64) (hk_169 : ∀ (g2 : Option Value) (g5 : Option Value) (g7 : Option Value) (g9 : Option Value) (g12 : Option Value) (g15 : Option Value) (g16 : Option Value) (x0 : Nat) (x1 : Int32) (x3 : Int32) (x4 : Int64) (x6 : Int64) (x8 : Int64) (x10 : Int32) (x11 : Int64) (x13 : Int32) (x14 : Int32) (r : Int64), k_169 x0 x1 x3 x4 x6 x8 x10 x11 x13 x14 = some r → gi_Ev M_X6_ruin 169 [some (.ref x0), some (.int x1), g2, some (.int x3), some (.long x4), g5, some (.long x6), g7, some (.long x8), g9, some (.int x10), some (.long x11), g12, some (.int x13), some (.int x14), g15, g16] [] h (some (.long r), h)) (g2 : Option Value) (g5 : Option Value) (g7 : Option Value) (g9 : Option Value) (g12 : Option Value) (g15 : Option Value) (g16 : Option Value) (x0 : Nat) (x1 : Int32) (x3 : Int32) (x4 : Int64) (x6 : Int64) (x8 : Int64) (x10 : Int32) (x11 : Int64) (x13 : Int32) (x14 : Int32) (t0 : Int64) (r : Int64) (hf : f_X6_ruin_212 h k_153 k_169 x0 x1 x3 x4 x6 x8 x10 x11 x13 x14 t0 = some r) : gi_Ev M_X6_ruin 212 [some (.ref x0), some (.int x1), g2, some (.int x3), some (.long x4), g5, some (.long x6), g7, some (.long x8), g9, some (.int x10), some (.long x11), g12, some (.int x13), some (.int x14), g15, g16] [.long t0] h (some (.long r), h) := by
  unfold f_X6_ruin_212 at hf
  refine gi_EvN 4 (pc' := 220) (lv' := [some (.ref x0), some (.int x1), g2, some (.int x3), some (.long x4), g5, some (.long x6), g7, some (.long x8), g9, some (.int x10), some (.long x11), g12, some (.int x13), some (.int x14), some (.long t0), none]) (st' := [.int x14, .int x10, .long x11]) (h' := h) rfl ?_
  obtain ⟨y1, qy1, hf⟩ := gi_bind hf
  refine gi_EvCS rfl rfl rfl rfl rfl (e_X6_has h _ _ _ qy1) ?_
  show gi_Ev M_X6_ruin 223 [some (.ref x0), some (.int x1), g2, some (.int x3), some (.long x4), g5, some (.long x6), g7, some (.long x8), g9, some (.int x10), some (.long x11), g12, some (.int x13), some (.int x14), some (.long t0), none] [.int y1, .long x11] h _
  refine gi_Ev_eq rfl (fun c2 => ?_) (fun c2 => ?_)
  · rw [if_pos c2] at hf
    refine gi_EvN 1 (pc' := 236) (lv' := [some (.ref x0), some (.int x1), g2, some (.int x3), some (.long x4), g5, some (.long x6), g7, some (.long x8), g9, some (.int x10), some (.long x11), g12, some (.int x13), some (.int x14), some (.long t0), none]) (st' := [.long t0, .long x11]) (h' := h) rfl ?_
    exact e_X6_ruin_236 h _ hk_153 _ hk_169 _ _ _ _ _ _ _ _ _ _ _ _ _ _ _ _ _ _ _ _ hf
  · rw [if_neg c2] at hf
    refine gi_EvN 4 (pc' := 236) (lv' := [some (.ref x0), some (.int x1), g2, some (.int x3), some (.long x4), g5, some (.long x6), g7, some (.long x8), g9, some (.int x10), some (.long x11), g12, some (.int x13), some (.int x14), some (.long t0), none]) (st' := [.long (x4 - t0), .long x11]) (h' := h) rfl ?_
    exact e_X6_ruin_236 h _ hk_153 _ hk_169 _ _ _ _ _ _ _ _ _ _ _ _ _ _ _ _ _ _ _ _ hf
def f_X6_ruin_290 (h : gi_H) (k_153 : Nat → Int32 → Int32 → Int64 → Int64 → Int64 → Int32 → Option Int64) (x0 : Nat) (x1 : Int32) (x3 : Int32) (x4 : Int64) (x8 : Int64) (x10 : Int32) (t0 : Int64) (t1 : Int64) : Option Int64 :=
  k_153 x0 x1 x3 x4 (t0 + t1) x8 (x10 + 1)
set_option maxRecDepth 20000 in
set_option maxHeartbeats 2000000 in
theorem e_X6_ruin_290 (h : gi_H) (k_153 : Nat → Int32 → Int32 → Int64 → Int64 → Int64 → Int32 → Option Int64) (hk_153 : ∀ (g2 : Option Value) (g5 : Option Value) (g7 : Option Value) (g9 : Option Value) (g11 : Option Value) (g12 : Option Value) (g13 : Option Value) (g14 : Option Value) (g15 : Option Value) (g16 : Option Value) (x0 : Nat) (x1 : Int32) (x3 : Int32) (x4 : Int64) (x6 : Int64) (x8 : Int64) (x10 : Int32) (r : Int64), k_153 x0 x1 x3 x4 x6 x8 x10 = some r → gi_Ev M_X6_ruin 153 [some (.ref x0), some (.int x1), g2, some (.int x3), some (.long x4), g5, some (.long x6), g7, some (.long x8), g9, some (.int x10), g11, g12, g13, g14, g15, g16] [] h (some (.long r), h)) (g2 : Option Value) (g5 : Option Value) (g6 : Option Value) (g7 : Option Value) (g9 : Option Value) (g11 : Option Value) (g12 : Option Value) (g13 : Option Value) (g14 : Option Value) (g15 : Option Value) (g16 : Option Value) (x0 : Nat) (x1 : Int32) (x3 : Int32) (x4 : Int64) (x8 : Int64) (x10 : Int32) (t0 : Int64) (t1 : Int64) (r : Int64) (hf : f_X6_ruin_290 h k_153 x0 x1 x3 x4 x8 x10 t0 t1 = some r) : gi_Ev M_X6_ruin 290 [some (.ref x0), some (.int x1), g2, some (.int x3), some (.long x4), g5, g6, g7, some (.long x8), g9, some (.int x10), g11, g12, g13, g14, g15, g16] [.long t1, .long t0] h (some (.long r), h) := by
  unfold f_X6_ruin_290 at hf
  refine gi_EvN 4 (pc' := 153) (lv' := [some (.ref x0), some (.int x1), g2, some (.int x3), some (.long x4), (gi_cl g5), some (.long (t0 + t1)), none, some (.long x8), (gi_cl g9), some (.int (x10 + 1)), g11, g12, g13, g14, g15, g16]) (st' := []) (h' := h) rfl ?_
  exact hk_153 _ _ _ _ _ _ _ _ _ _  _  _  _  _  _  _  _ _ hf
def f_X6_ruin_270 (h : gi_H) (k_153 : Nat → Int32 → Int32 → Int64 → Int64 → Int64 → Int32 → Option Int64) (x0 : Nat) (x1 : Int32) (x3 : Int32) (x4 : Int64) (x6 : Int64) (x8 : Int64) (x10 : Int32) (x11 : Int64) (x13 : Int32) : Option Int64 :=
  (gi_fR h x0 6 0).bind fun y1 => (gi_ai h y1 0 10).bind fun y2 => if x13 ≤ y2 then f_X6_ruin_290 h k_153 x0 x1 x3 x4 x8 x10 x6 0
  else f_X6_ruin_290 h k_153 x0 x1 x3 x4 x8 x10 x6 x11
set_option maxRecDepth 20000 in
set_option maxHeartbeats 2000000 in
theorem e_X6_ruin_270 (h : gi_H) (k_153 : Nat → Int32 → Int32 → Int64 → Int64 → Int64 → Int32 → Option Int64) (hk_153 : ∀ (g2 : Option Value) (g5 : Option Value) (g7 : Option Value) (g9 : Option Value) (g11 : Option Value) (g12 : Option Value) (g13 : Option Value) (g14 : Option Value) (g15 : Option Value) (g16 : Option Value) (x0 : Nat) (x1 : Int32) (x3 : Int32) (x4 : Int64) (x6 : Int64) (x8 : Int64) (x10 : Int32) (r : Int64), k_153 x0 x1 x3 x4 x6 x8 x10 = some r → gi_Ev M_X6_ruin 153 [some (.ref x0), some (.int x1), g2, some (.int x3), some (.long x4), g5, some (.long x6), g7, some (.long x8), g9, some (.int x10), g11, g12, g13, g14, g15, g16] [] h (some (.long r), h)) (g2 : Option Value) (g5 : Option Value) (g7 : Option Value) (g9 : Option Value) (g12 : Option Value) (g14 : Option Value) (g15 : Option Value) (g16 : Option Value) (x0 : Nat) (x1 : Int32) (x3 : Int32) (x4 : Int64) (x6 : Int64) (x8 : Int64) (x10 : Int32) (x11 : Int64) (x13 : Int32) (r : Int64) (hf : f_X6_ruin_270 h k_153 x0 x1 x3 x4 x6 x8 x10 x11 x13 = some r) : gi_Ev M_X6_ruin 270 [some (.ref x0), some (.int x1), g2, some (.int x3), some (.long x4), g5, some (.long x6), g7, some (.long x8), g9, some (.int x10), some (.long x11), g12, some (.int x13), g14, g15, g16] [] h (some (.long r), h) := by
  unfold f_X6_ruin_270 at hf
  refine gi_EvN 3 (pc' := 275) (lv' := [some (.ref x0), some (.int x1), g2, some (.int x3), some (.long x4), g5, some (.long x6), g7, some (.long x8), g9, some (.int x10), some (.long x11), g12, some (.int x13), g14, g15, g16]) (st' := [.ref x0, .int x13, .long x6]) (h' := h) rfl ?_
  obtain ⟨y1, qy1, hf⟩ := gi_bind hf
  refine gi_EvF rfl (gi_fR_inv qy1) ?_
  refine gi_EvN 1 (pc' := 280) (lv' := [some (.ref x0), some (.int x1), g2, some (.int x3), some (.long x4), g5, some (.long x6), g7, some (.long x8), g9, some (.int x10), some (.long x11), g12, some (.int x13), g14, g15, g16]) (st' := [.int 10, .ref y1, .int x13, .long x6]) (h' := h) rfl ?_
  obtain ⟨y2, qy2, hf⟩ := gi_bind hf
  refine gi_EvAi rfl qy2 ?_
  refine gi_Ev_ile rfl (fun c3 => ?_) (fun c3 => ?_)
  · rw [if_pos c3] at hf
    refine gi_EvN 1 (pc' := 290) (lv' := [some (.ref x0), some (.int x1), g2, some (.int x3), some (.long x4), g5, some (.long x6), g7, some (.long x8), g9, some (.int x10), some (.long x11), g12, some (.int x13), g14, g15, g16]) (st' := [.long 0, .long x6]) (h' := h) rfl ?_
    exact e_X6_ruin_290 h _ hk_153 _ _ _ _ _ _ _ _ _ _ _ _ _ _ _ _ _ _ _ _ hf
  · rw [if_neg c3] at hf
    refine gi_EvN 2 (pc' := 290) (lv' := [some (.ref x0), some (.int x1), g2, some (.int x3), some (.long x4), g5, some (.long x6), g7, some (.long x8), g9, some (.int x10), some (.long x11), g12, some (.int x13), g14, g15, g16]) (st' := [.long x11, .long x6]) (h' := h) rfl ?_
    exact e_X6_ruin_290 h _ hk_153 _ _ _ _ _ _ _ _ _ _ _ _ _ _ _ _ _ _ _ _ hf
def f_X6_ruin_169 (h : gi_H) (k_153 : Nat → Int32 → Int32 → Int64 → Int64 → Int64 → Int32 → Option Int64) : Nat → Nat → Int32 → Int32 → Int64 → Int64 → Int64 → Int32 → Int64 → Int32 → Int32 → Option Int64
  | 0, _, _, _, _, _, _, _, _, _, _ => none
  | n + 1, x0, x1, x3, x4, x6, x8, x10, x11, x13, x14 => if 6 ≤ x14 then f_X6_ruin_270 h k_153 x0 x1 x3 x4 x6 x8 x10 x11 x13
  else (gi_fR h x0 6 0).bind fun y2 => (gi_ai h y2 0 12).bind fun y3 => (f_X6_has y3 x14).bind fun y4 => if y4 = 0 then (gi_fR h x0 6 0).bind fun y6 => (gi_ai h y6 0 x14).bind fun y7 => (f_X6_power (10 - (Int32.toInt64 y7)) x1).bind fun y8 => f_X6_ruin_212 h k_153 (f_X6_ruin_169 h k_153 n) x0 x1 x3 x4 x6 x8 x10 x11 x13 x14 y8
  else f_X6_ruin_212 h k_153 (f_X6_ruin_169 h k_153 n) x0 x1 x3 x4 x6 x8 x10 x11 x13 x14 x4
set_option maxRecDepth 20000 in
set_option maxHeartbeats 2000000 in
theorem e_X6_ruin_169 (h : gi_H) (k_153 : Nat → Int32 → Int32 → Int64 → Int64 → Int64 → Int32 → Option Int64) (hk_153 : ∀ (g2 : Option Value) (g5 : Option Value) (g7 : Option Value) (g9 : Option Value) (g11 : Option Value) (g12 : Option Value) (g13 : Option Value) (g14 : Option Value) (g15 : Option Value) (g16 : Option Value) (x0 : Nat) (x1 : Int32) (x3 : Int32) (x4 : Int64) (x6 : Int64) (x8 : Int64) (x10 : Int32) (r : Int64), k_153 x0 x1 x3 x4 x6 x8 x10 = some r → gi_Ev M_X6_ruin 153 [some (.ref x0), some (.int x1), g2, some (.int x3), some (.long x4), g5, some (.long x6), g7, some (.long x8), g9, some (.int x10), g11, g12, g13, g14, g15, g16] [] h (some (.long r), h)) : ∀ (n : Nat) (g2 : Option Value) (g5 : Option Value) (g7 : Option Value) (g9 : Option Value) (g12 : Option Value) (g15 : Option Value) (g16 : Option Value) (x0 : Nat) (x1 : Int32) (x3 : Int32) (x4 : Int64) (x6 : Int64) (x8 : Int64) (x10 : Int32) (x11 : Int64) (x13 : Int32) (x14 : Int32) (r : Int64), f_X6_ruin_169 h k_153 n x0 x1 x3 x4 x6 x8 x10 x11 x13 x14 = some r → gi_Ev M_X6_ruin 169 [some (.ref x0), some (.int x1), g2, some (.int x3), some (.long x4), g5, some (.long x6), g7, some (.long x8), g9, some (.int x10), some (.long x11), g12, some (.int x13), some (.int x14), g15, g16] [] h (some (.long r), h) := by
  intro n
  induction n with
  | zero =>
    intro g2 g5 g7 g9 g12 g15 g16 x0 x1 x3 x4 x6 x8 x10 x11 x13 x14 r hf
    unfold f_X6_ruin_169 at hf
    cases hf
  | succ n ih =>
    intro g2 g5 g7 g9 g12 g15 g16 x0 x1 x3 x4 x6 x8 x10 x11 x13 x14 r hf
    unfold f_X6_ruin_169 at hf
    refine gi_EvN 2 (pc' := 173) (lv' := [some (.ref x0), some (.int x1), g2, some (.int x3), some (.long x4), g5, some (.long x6), g7, some (.long x8), g9, some (.int x10), some (.long x11), g12, some (.int x13), some (.int x14), g15, g16]) (st' := [.int 6, .int x14]) (h' := h) rfl ?_
    refine gi_Ev_ige rfl (fun c1 => ?_) (fun c1 => ?_)
    · rw [if_pos c1] at hf
      exact e_X6_ruin_270 h _ hk_153 _ _ _ _ _ _ _ _ _ _ _ _ _ _ _ _ _ _ hf
    · rw [if_neg c1] at hf
      refine gi_EvN 1 (pc' := 177) (lv' := [some (.ref x0), some (.int x1), g2, some (.int x3), some (.long x4), g5, some (.long x6), g7, some (.long x8), g9, some (.int x10), some (.long x11), g12, some (.int x13), some (.int x14), g15, g16]) (st' := [.ref x0]) (h' := h) rfl ?_
      obtain ⟨y2, qy2, hf⟩ := gi_bind hf
      refine gi_EvF rfl (gi_fR_inv qy2) ?_
      refine gi_EvN 1 (pc' := 182) (lv' := [some (.ref x0), some (.int x1), g2, some (.int x3), some (.long x4), g5, some (.long x6), g7, some (.long x8), g9, some (.int x10), some (.long x11), g12, some (.int x13), some (.int x14), g15, g16]) (st' := [.int 12, .ref y2]) (h' := h) rfl ?_
      obtain ⟨y3, qy3, hf⟩ := gi_bind hf
      refine gi_EvAi rfl qy3 ?_
      refine gi_EvN 1 (pc' := 185) (lv' := [some (.ref x0), some (.int x1), g2, some (.int x3), some (.long x4), g5, some (.long x6), g7, some (.long x8), g9, some (.int x10), some (.long x11), g12, some (.int x13), some (.int x14), g15, g16]) (st' := [.int x14, .int y3]) (h' := h) rfl ?_
      obtain ⟨y4, qy4, hf⟩ := gi_bind hf
      refine gi_EvCS rfl rfl rfl rfl rfl (e_X6_has h _ _ _ qy4) ?_
      show gi_Ev M_X6_ruin 188 [some (.ref x0), some (.int x1), g2, some (.int x3), some (.long x4), g5, some (.long x6), g7, some (.long x8), g9, some (.int x10), some (.long x11), g12, some (.int x13), some (.int x14), g15, g16] [.int y4] h _
      refine gi_Ev_eq rfl (fun c5 => ?_) (fun c5 => ?_)
      · rw [if_pos c5] at hf
        refine gi_EvN 2 (pc' := 200) (lv' := [some (.ref x0), some (.int x1), g2, some (.int x3), some (.long x4), g5, some (.long x6), g7, some (.long x8), g9, some (.int x10), some (.long x11), g12, some (.int x13), some (.int x14), g15, g16]) (st' := [.ref x0, .long 10]) (h' := h) rfl ?_
        obtain ⟨y6, qy6, hf⟩ := gi_bind hf
        refine gi_EvF rfl (gi_fR_inv qy6) ?_
        refine gi_EvN 1 (pc' := 205) (lv' := [some (.ref x0), some (.int x1), g2, some (.int x3), some (.long x4), g5, some (.long x6), g7, some (.long x8), g9, some (.int x10), some (.long x11), g12, some (.int x13), some (.int x14), g15, g16]) (st' := [.int x14, .ref y6, .long 10]) (h' := h) rfl ?_
        obtain ⟨y7, qy7, hf⟩ := gi_bind hf
        refine gi_EvAi rfl qy7 ?_
        refine gi_EvN 3 (pc' := 209) (lv' := [some (.ref x0), some (.int x1), g2, some (.int x3), some (.long x4), g5, some (.long x6), g7, some (.long x8), g9, some (.int x10), some (.long x11), g12, some (.int x13), some (.int x14), g15, g16]) (st' := [.int x1, .long (10 - (Int32.toInt64 y7))]) (h' := h) rfl ?_
        obtain ⟨y8, qy8, hf⟩ := gi_bind hf
        refine gi_EvCS rfl rfl rfl rfl rfl (e_X6_power h _ _ _ qy8) ?_
        show gi_Ev M_X6_ruin 212 [some (.ref x0), some (.int x1), g2, some (.int x3), some (.long x4), g5, some (.long x6), g7, some (.long x8), g9, some (.int x10), some (.long x11), g12, some (.int x13), some (.int x14), g15, g16] [.long y8] h _
        exact e_X6_ruin_212 h _ hk_153 _ ih _ _ _ _ _ _ _ _ _ _ _ _ _ _ _ _ _ _ _ hf
      · rw [if_neg c5] at hf
        refine gi_EvN 2 (pc' := 212) (lv' := [some (.ref x0), some (.int x1), g2, some (.int x3), some (.long x4), g5, some (.long x6), g7, some (.long x8), g9, some (.int x10), some (.long x11), g12, some (.int x13), some (.int x14), g15, g16]) (st' := [.long x4]) (h' := h) rfl ?_
        exact e_X6_ruin_212 h _ hk_153 _ ih _ _ _ _ _ _ _ _ _ _ _ _ _ _ _ _ _ _ _ hf
def f_X6_ruin_299 (h : gi_H) (x3 : Int32) (x6 : Int64) (x8 : Int64) : Option Int64 :=
  (f_X6_part x6 x8 x3).bind fun y1 => some (y1)
set_option maxRecDepth 20000 in
set_option maxHeartbeats 2000000 in
theorem e_X6_ruin_299 (h : gi_H) (g0 : Option Value) (g1 : Option Value) (g2 : Option Value) (g4 : Option Value) (g5 : Option Value) (g7 : Option Value) (g9 : Option Value) (g10 : Option Value) (g11 : Option Value) (g12 : Option Value) (g13 : Option Value) (g14 : Option Value) (g15 : Option Value) (g16 : Option Value) (x3 : Int32) (x6 : Int64) (x8 : Int64) (r : Int64) (hf : f_X6_ruin_299 h x3 x6 x8 = some r) : gi_Ev M_X6_ruin 299 [g0, g1, g2, some (.int x3), g4, g5, some (.long x6), g7, some (.long x8), g9, g10, g11, g12, g13, g14, g15, g16] [] h (some (.long r), h) := by
  unfold f_X6_ruin_299 at hf
  refine gi_EvN 3 (pc' := 304) (lv' := [g0, g1, g2, some (.int x3), g4, g5, some (.long x6), g7, some (.long x8), g9, g10, g11, g12, g13, g14, g15, g16]) (st' := [.int x3, .long x8, .long x6]) (h' := h) rfl ?_
  obtain ⟨y1, qy1, hf⟩ := gi_bind hf
  refine gi_EvCS rfl rfl rfl rfl rfl (e_X6_part h _ _ _ _ qy1) ?_
  show gi_Ev M_X6_ruin 307 [g0, g1, g2, some (.int x3), g4, g5, some (.long x6), g7, some (.long x8), g9, g10, g11, g12, g13, g14, g15, g16] [.long y1] h _
  cases hf
  exact gi_EvR rfl rfl
def f_X6_ruin_153 (h : gi_H) : Nat → Nat → Int32 → Int32 → Int64 → Int64 → Int64 → Int32 → Option Int64
  | 0, _, _, _, _, _, _, _ => none
  | n + 1, x0, x1, x3, x4, x6, x8, x10 => if 64 ≤ x10 then f_X6_ruin_299 h x3 x6 x8
  else f_X6_ruin_169 h (f_X6_ruin_153 h n) gi_F x0 x1 x3 x4 x6 x8 x10 1 0 0
set_option maxRecDepth 20000 in
set_option maxHeartbeats 2000000 in
theorem e_X6_ruin_153 (h : gi_H) : ∀ (n : Nat) (g2 : Option Value) (g5 : Option Value) (g7 : Option Value) (g9 : Option Value) (g11 : Option Value) (g12 : Option Value) (g13 : Option Value) (g14 : Option Value) (g15 : Option Value) (g16 : Option Value) (x0 : Nat) (x1 : Int32) (x3 : Int32) (x4 : Int64) (x6 : Int64) (x8 : Int64) (x10 : Int32) (r : Int64), f_X6_ruin_153 h n x0 x1 x3 x4 x6 x8 x10 = some r → gi_Ev M_X6_ruin 153 [some (.ref x0), some (.int x1), g2, some (.int x3), some (.long x4), g5, some (.long x6), g7, some (.long x8), g9, some (.int x10), g11, g12, g13, g14, g15, g16] [] h (some (.long r), h) := by
  intro n
  induction n with
  | zero =>
    intro g2 g5 g7 g9 g11 g12 g13 g14 g15 g16 x0 x1 x3 x4 x6 x8 x10 r hf
    unfold f_X6_ruin_153 at hf
    cases hf
  | succ n ih =>
    intro g2 g5 g7 g9 g11 g12 g13 g14 g15 g16 x0 x1 x3 x4 x6 x8 x10 r hf
    unfold f_X6_ruin_153 at hf
    refine gi_EvN 2 (pc' := 157) (lv' := [some (.ref x0), some (.int x1), g2, some (.int x3), some (.long x4), g5, some (.long x6), g7, some (.long x8), g9, some (.int x10), g11, g12, g13, g14, g15, g16]) (st' := [.int 64, .int x10]) (h' := h) rfl ?_
    refine gi_Ev_ige rfl (fun c1 => ?_) (fun c1 => ?_)
    · rw [if_pos c1] at hf
      exact e_X6_ruin_299 h _ _ _ _ _ _ _ _ _ _ _ _ _ _ _ _ _ _ hf
    · rw [if_neg c1] at hf
      refine gi_EvN 6 (pc' := 169) (lv' := [some (.ref x0), some (.int x1), g2, some (.int x3), some (.long x4), g5, some (.long x6), g7, some (.long x8), g9, some (.int x10), some (.long 1), none, some (.int 0), some (.int 0), g15, g16]) (st' := []) (h' := h) rfl ?_
      exact e_X6_ruin_169 h _ ih gi_F _ _ _ _ _ _ _ _ _ _ _ _ _ _ _ _ _ _ hf
def f_X6_ruin_130 (h : gi_H) : Nat → Nat → Int32 → Int32 → Int64 → Int64 → Int64 → Int32 → Option Int64
  | 0, _, _, _, _, _, _, _ => none
  | n + 1, x0, x1, x3, x4, x6, x8, x10 => if 6 ≤ x10 then f_X6_ruin_153 h gi_F x0 x1 x3 x4 x6 x8 0
  else f_X6_ruin_130 h n x0 x1 x3 x4 x6 (x8 * x4) (x10 + 1)
set_option maxRecDepth 20000 in
set_option maxHeartbeats 2000000 in
theorem e_X6_ruin_130 (h : gi_H) : ∀ (n : Nat) (g2 : Option Value) (g5 : Option Value) (g7 : Option Value) (g9 : Option Value) (g11 : Option Value) (g12 : Option Value) (g13 : Option Value) (g14 : Option Value) (g15 : Option Value) (g16 : Option Value) (x0 : Nat) (x1 : Int32) (x3 : Int32) (x4 : Int64) (x6 : Int64) (x8 : Int64) (x10 : Int32) (r : Int64), f_X6_ruin_130 h n x0 x1 x3 x4 x6 x8 x10 = some r → gi_Ev M_X6_ruin 130 [some (.ref x0), some (.int x1), g2, some (.int x3), some (.long x4), g5, some (.long x6), g7, some (.long x8), g9, some (.int x10), g11, g12, g13, g14, g15, g16] [] h (some (.long r), h) := by
  intro n
  induction n with
  | zero =>
    intro g2 g5 g7 g9 g11 g12 g13 g14 g15 g16 x0 x1 x3 x4 x6 x8 x10 r hf
    unfold f_X6_ruin_130 at hf
    cases hf
  | succ n ih =>
    intro g2 g5 g7 g9 g11 g12 g13 g14 g15 g16 x0 x1 x3 x4 x6 x8 x10 r hf
    unfold f_X6_ruin_130 at hf
    refine gi_EvN 2 (pc' := 134) (lv' := [some (.ref x0), some (.int x1), g2, some (.int x3), some (.long x4), g5, some (.long x6), g7, some (.long x8), g9, some (.int x10), g11, g12, g13, g14, g15, g16]) (st' := [.int 6, .int x10]) (h' := h) rfl ?_
    refine gi_Ev_ige rfl (fun c1 => ?_) (fun c1 => ?_)
    · rw [if_pos c1] at hf
      refine gi_EvN 2 (pc' := 153) (lv' := [some (.ref x0), some (.int x1), g2, some (.int x3), some (.long x4), g5, some (.long x6), g7, some (.long x8), (gi_cl g9), some (.int 0), g11, g12, g13, g14, g15, g16]) (st' := []) (h' := h) rfl ?_
      exact e_X6_ruin_153 h gi_F _ _ _ _ _ _ _ _ _ _ _ _ _ _ _ _ _ _ hf
    · rw [if_neg c1] at hf
      refine gi_EvN 6 (pc' := 130) (lv' := [some (.ref x0), some (.int x1), g2, some (.int x3), some (.long x4), g5, some (.long x6), (gi_cl g7), some (.long (x8 * x4)), none, some (.int (x10 + 1)), g11, g12, g13, g14, g15, g16]) (st' := []) (h' := h) rfl ?_
      exact ih _ _ _ _ _ _ _ _ _ _  _  _  _  _  _  _  _ _ hf
def f_X6_ruin (h : gi_H) (x0 : Nat) (x1 : Int32) (x2 : Int32) (x3 : Int32) : Option Int64 :=
  (f_X6_in x1 0 3).bind fun y1 => if y1 = 0 then some ((-1000000000000000002))
  else (f_X6_in x2 0 1).bind fun y3 => if y3 = 0 then some ((-1000000000000000002))
  else (f_X6_in x3 0 1).bind fun y5 => if y5 = 0 then some ((-1000000000000000002))
  else (f_X6_power 10 x1).bind fun y7 => if x2 = 1 then f_X6_ruin_54 h gi_F x0 x1 x3 y7 0 0
  else f_X6_ruin_130 h gi_F x0 x1 x3 y7 0 1 0
set_option maxRecDepth 20000 in
set_option maxHeartbeats 2000000 in
theorem e_X6_ruin (h : gi_H) (x0 : Nat) (x1 : Int32) (x2 : Int32) (x3 : Int32) (r : Int64) (hf : f_X6_ruin h x0 x1 x2 x3 = some r) : gi_Ev M_X6_ruin 0 [some (.ref x0), some (.int x1), some (.int x2), some (.int x3), none, none, none, none, none, none, none, none, none, none, none, none, none] [] h (some (.long r), h) := by
  unfold f_X6_ruin at hf
  refine gi_EvN 3 (pc' := 3) (lv' := [some (.ref x0), some (.int x1), some (.int x2), some (.int x3), none, none, none, none, none, none, none, none, none, none, none, none, none]) (st' := [.int 3, .int 0, .int x1]) (h' := h) rfl ?_
  obtain ⟨y1, qy1, hf⟩ := gi_bind hf
  refine gi_EvCS rfl rfl rfl rfl rfl (e_X6_in h _ _ _ _ qy1) ?_
  show gi_Ev M_X6_ruin 6 [some (.ref x0), some (.int x1), some (.int x2), some (.int x3), none, none, none, none, none, none, none, none, none, none, none, none, none] [.int y1] h _
  refine gi_Ev_eq rfl (fun c2 => ?_) (fun c2 => ?_)
  · rw [if_pos c2] at hf
    refine gi_EvN 1 (pc' := 30) (lv' := [some (.ref x0), some (.int x1), some (.int x2), some (.int x3), none, none, none, none, none, none, none, none, none, none, none, none, none]) (st' := [.long (-1000000000000000002)]) (h' := h) rfl ?_
    cases hf
    exact gi_EvR rfl rfl
  · rw [if_neg c2] at hf
    refine gi_EvN 3 (pc' := 12) (lv' := [some (.ref x0), some (.int x1), some (.int x2), some (.int x3), none, none, none, none, none, none, none, none, none, none, none, none, none]) (st' := [.int 1, .int 0, .int x2]) (h' := h) rfl ?_
    obtain ⟨y3, qy3, hf⟩ := gi_bind hf
    refine gi_EvCS rfl rfl rfl rfl rfl (e_X6_in h _ _ _ _ qy3) ?_
    show gi_Ev M_X6_ruin 15 [some (.ref x0), some (.int x1), some (.int x2), some (.int x3), none, none, none, none, none, none, none, none, none, none, none, none, none] [.int y3] h _
    refine gi_Ev_eq rfl (fun c4 => ?_) (fun c4 => ?_)
    · rw [if_pos c4] at hf
      refine gi_EvN 1 (pc' := 30) (lv' := [some (.ref x0), some (.int x1), some (.int x2), some (.int x3), none, none, none, none, none, none, none, none, none, none, none, none, none]) (st' := [.long (-1000000000000000002)]) (h' := h) rfl ?_
      cases hf
      exact gi_EvR rfl rfl
    · rw [if_neg c4] at hf
      refine gi_EvN 3 (pc' := 21) (lv' := [some (.ref x0), some (.int x1), some (.int x2), some (.int x3), none, none, none, none, none, none, none, none, none, none, none, none, none]) (st' := [.int 1, .int 0, .int x3]) (h' := h) rfl ?_
      obtain ⟨y5, qy5, hf⟩ := gi_bind hf
      refine gi_EvCS rfl rfl rfl rfl rfl (e_X6_in h _ _ _ _ qy5) ?_
      show gi_Ev M_X6_ruin 24 [some (.ref x0), some (.int x1), some (.int x2), some (.int x3), none, none, none, none, none, none, none, none, none, none, none, none, none] [.int y5] h _
      refine gi_Ev_ne rfl (fun c6 => ?_) (fun c6 => ?_)
      · rw [if_pos c6] at hf
        refine gi_EvN 1 (pc' := 30) (lv' := [some (.ref x0), some (.int x1), some (.int x2), some (.int x3), none, none, none, none, none, none, none, none, none, none, none, none, none]) (st' := [.long (-1000000000000000002)]) (h' := h) rfl ?_
        cases hf
        exact gi_EvR rfl rfl
      · rw [if_neg c6] at hf
        refine gi_EvN 2 (pc' := 35) (lv' := [some (.ref x0), some (.int x1), some (.int x2), some (.int x3), none, none, none, none, none, none, none, none, none, none, none, none, none]) (st' := [.int x1, .long 10]) (h' := h) rfl ?_
        obtain ⟨y7, qy7, hf⟩ := gi_bind hf
        refine gi_EvCS rfl rfl rfl rfl rfl (e_X6_power h _ _ _ qy7) ?_
        show gi_Ev M_X6_ruin 38 [some (.ref x0), some (.int x1), some (.int x2), some (.int x3), none, none, none, none, none, none, none, none, none, none, none, none, none] [.long y7] h _
        refine gi_EvN 7 (pc' := 48) (lv' := [some (.ref x0), some (.int x1), some (.int x2), some (.int x3), some (.long y7), none, some (.long 0), none, some (.long 1), none, none, none, none, none, none, none, none]) (st' := [.int 1, .int x2]) (h' := h) rfl ?_
        refine gi_Ev_ine rfl (fun c8 => ?_) (fun c8 => ?_)
        · rw [if_pos c8] at hf
          refine gi_EvN 2 (pc' := 54) (lv' := [some (.ref x0), some (.int x1), some (.int x2), some (.int x3), some (.long y7), none, some (.long 0), none, some (.long 1), none, some (.int 0), none, none, none, none, none, none]) (st' := []) (h' := h) rfl ?_
          exact e_X6_ruin_54 h gi_F _ _ _ _ _ _ _ _ _ _ _ _ _ _ _ _ _ _ hf
        · rw [if_neg c8] at hf
          refine gi_EvN 2 (pc' := 130) (lv' := [some (.ref x0), some (.int x1), some (.int x2), some (.int x3), some (.long y7), none, some (.long 0), none, some (.long 1), none, some (.int 0), none, none, none, none, none, none]) (st' := []) (h' := h) rfl ?_
          exact e_X6_ruin_130 h gi_F _ _ _ _ _ _ _ _ _ _ _ _ _ _ _ _ _ _ hf
/-! X6_tells AdmiralGuineaModel.tells(III)I -/
def f_X6_tells_70 (k_39 : Int32 → Int32 → Int32 → Int32 → Int32 → Option Int32) (x1 : Int32) (x2 : Int32) (x3 : Int32) (x5 : Int32) (t0 : Int32) (t1 : Int32) : Option Int32 :=
  k_39 x1 x2 x3 (t0 ||| t1) (x5 + 1)
set_option maxRecDepth 20000 in
set_option maxHeartbeats 2000000 in
theorem e_X6_tells_70 (h : gi_H) (k_39 : Int32 → Int32 → Int32 → Int32 → Int32 → Option Int32) (hk_39 : ∀ (g0 : Option Value) (x1 : Int32) (x2 : Int32) (x3 : Int32) (x4 : Int32) (x5 : Int32) (r : Int32), k_39 x1 x2 x3 x4 x5 = some r → gi_Ev M_X6_tells 39 [g0, some (.int x1), some (.int x2), some (.int x3), some (.int x4), some (.int x5)] [] h (some (.int r), h)) (g0 : Option Value) (g4 : Option Value) (x1 : Int32) (x2 : Int32) (x3 : Int32) (x5 : Int32) (t0 : Int32) (t1 : Int32) (r : Int32) (hf : f_X6_tells_70 k_39 x1 x2 x3 x5 t0 t1 = some r) : gi_Ev M_X6_tells 70 [g0, some (.int x1), some (.int x2), some (.int x3), g4, some (.int x5)] [.int t1, .int t0] h (some (.int r), h) := by
  unfold f_X6_tells_70 at hf
  refine gi_EvN 4 (pc' := 39) (lv' := [g0, some (.int x1), some (.int x2), some (.int x3), some (.int (t0 ||| t1)), some (.int (x5 + 1))]) (st' := []) (h' := h) rfl ?_
  exact hk_39 _  _  _  _  _  _ _ hf
def f_X6_tells_39 : Nat → Int32 → Int32 → Int32 → Int32 → Int32 → Option Int32
  | 0, _, _, _, _, _ => none
  | n + 1, x1, x2, x3, x4, x5 => if 10 ≤ x5 then some (x4)
  else (f_X6_priceOf (10 * x1) x5 x2).bind fun y2 => if y2 = x3 then f_X6_tells_70 (f_X6_tells_39 n) x1 x2 x3 x5 x4 (1 <<< (x5 &&& 31))
  else f_X6_tells_70 (f_X6_tells_39 n) x1 x2 x3 x5 x4 0
set_option maxRecDepth 20000 in
set_option maxHeartbeats 2000000 in
theorem e_X6_tells_39 (h : gi_H) : ∀ (n : Nat) (g0 : Option Value) (x1 : Int32) (x2 : Int32) (x3 : Int32) (x4 : Int32) (x5 : Int32) (r : Int32), f_X6_tells_39 n x1 x2 x3 x4 x5 = some r → gi_Ev M_X6_tells 39 [g0, some (.int x1), some (.int x2), some (.int x3), some (.int x4), some (.int x5)] [] h (some (.int r), h) := by
  intro n
  induction n with
  | zero =>
    intro g0 x1 x2 x3 x4 x5 r hf
    unfold f_X6_tells_39 at hf
    cases hf
  | succ n ih =>
    intro g0 x1 x2 x3 x4 x5 r hf
    unfold f_X6_tells_39 at hf
    refine gi_EvN 2 (pc' := 43) (lv' := [g0, some (.int x1), some (.int x2), some (.int x3), some (.int x4), some (.int x5)]) (st' := [.int 10, .int x5]) (h' := h) rfl ?_
    refine gi_Ev_ige rfl (fun c1 => ?_) (fun c1 => ?_)
    · rw [if_pos c1] at hf
      refine gi_EvN 1 (pc' := 81) (lv' := [g0, some (.int x1), some (.int x2), some (.int x3), some (.int x4), some (.int x5)]) (st' := [.int x4]) (h' := h) rfl ?_
      cases hf
      exact gi_EvR rfl rfl
    · rw [if_neg c1] at hf
      refine gi_EvN 6 (pc' := 55) (lv' := [g0, some (.int x1), some (.int x2), some (.int x3), some (.int x4), some (.int x5)]) (st' := [.int x2, .int x5, .int (10 * x1), .int x4]) (h' := h) rfl ?_
      obtain ⟨y2, qy2, hf⟩ := gi_bind hf
      refine gi_EvCS rfl rfl rfl rfl rfl (e_X6_priceOf h _ _ _ _ qy2) ?_
      show gi_Ev M_X6_tells 58 [g0, some (.int x1), some (.int x2), some (.int x3), some (.int x4), some (.int x5)] [.int y2, .int x4] h _
      refine gi_EvN 1 (pc' := 59) (lv' := [g0, some (.int x1), some (.int x2), some (.int x3), some (.int x4), some (.int x5)]) (st' := [.int x3, .int y2, .int x4]) (h' := h) rfl ?_
      refine gi_Ev_ine rfl (fun c3 => ?_) (fun c3 => ?_)
      · rw [if_pos c3] at hf
        refine gi_EvN 4 (pc' := 70) (lv' := [g0, some (.int x1), some (.int x2), some (.int x3), some (.int x4), some (.int x5)]) (st' := [.int (1 <<< (x5 &&& 31)), .int x4]) (h' := h) rfl ?_
        exact e_X6_tells_70 h _ ih _ _ _ _ _ _ _ _ _ hf
      · rw [if_neg c3] at hf
        refine gi_EvN 1 (pc' := 70) (lv' := [g0, some (.int x1), some (.int x2), some (.int x3), some (.int x4), some (.int x5)]) (st' := [.int 0, .int x4]) (h' := h) rfl ?_
        exact e_X6_tells_70 h _ ih _ _ _ _ _ _ _ _ _ hf
def f_X6_tells (x0 : Nat) (x1 : Int32) (x2 : Int32) (x3 : Int32) : Option Int32 :=
  (f_X6_in x1 1 9).bind fun y1 => if y1 = 0 then some ((-2))
  else (f_X6_in x2 1 9).bind fun y3 => if y3 = 0 then some ((-2))
  else (f_X6_in x3 0 99).bind fun y5 => if y5 = 0 then some ((-2))
  else f_X6_tells_39 gi_F x1 x2 x3 0 1
set_option maxRecDepth 20000 in
set_option maxHeartbeats 2000000 in
theorem e_X6_tells (h : gi_H) (x0 : Nat) (x1 : Int32) (x2 : Int32) (x3 : Int32) (r : Int32) (hf : f_X6_tells x0 x1 x2 x3 = some r) : gi_Ev M_X6_tells 0 [some (.ref x0), some (.int x1), some (.int x2), some (.int x3), none, none] [] h (some (.int r), h) := by
  unfold f_X6_tells at hf
  refine gi_EvN 3 (pc' := 4) (lv' := [some (.ref x0), some (.int x1), some (.int x2), some (.int x3), none, none]) (st' := [.int 9, .int 1, .int x1]) (h' := h) rfl ?_
  obtain ⟨y1, qy1, hf⟩ := gi_bind hf
  refine gi_EvCS rfl rfl rfl rfl rfl (e_X6_in h _ _ _ _ qy1) ?_
  show gi_Ev M_X6_tells 7 [some (.ref x0), some (.int x1), some (.int x2), some (.int x3), none, none] [.int y1] h _
  refine gi_Ev_eq rfl (fun c2 => ?_) (fun c2 => ?_)
  · rw [if_pos c2] at hf
    refine gi_EvN 1 (pc' := 32) (lv' := [some (.ref x0), some (.int x1), some (.int x2), some (.int x3), none, none]) (st' := [.int (-2)]) (h' := h) rfl ?_
    cases hf
    exact gi_EvR rfl rfl
  · rw [if_neg c2] at hf
    refine gi_EvN 3 (pc' := 14) (lv' := [some (.ref x0), some (.int x1), some (.int x2), some (.int x3), none, none]) (st' := [.int 9, .int 1, .int x2]) (h' := h) rfl ?_
    obtain ⟨y3, qy3, hf⟩ := gi_bind hf
    refine gi_EvCS rfl rfl rfl rfl rfl (e_X6_in h _ _ _ _ qy3) ?_
    show gi_Ev M_X6_tells 17 [some (.ref x0), some (.int x1), some (.int x2), some (.int x3), none, none] [.int y3] h _
    refine gi_Ev_eq rfl (fun c4 => ?_) (fun c4 => ?_)
    · rw [if_pos c4] at hf
      refine gi_EvN 1 (pc' := 32) (lv' := [some (.ref x0), some (.int x1), some (.int x2), some (.int x3), none, none]) (st' := [.int (-2)]) (h' := h) rfl ?_
      cases hf
      exact gi_EvR rfl rfl
    · rw [if_neg c4] at hf
      refine gi_EvN 3 (pc' := 24) (lv' := [some (.ref x0), some (.int x1), some (.int x2), some (.int x3), none, none]) (st' := [.int 99, .int 0, .int x3]) (h' := h) rfl ?_
      obtain ⟨y5, qy5, hf⟩ := gi_bind hf
      refine gi_EvCS rfl rfl rfl rfl rfl (e_X6_in h _ _ _ _ qy5) ?_
      show gi_Ev M_X6_tells 27 [some (.ref x0), some (.int x1), some (.int x2), some (.int x3), none, none] [.int y5] h _
      refine gi_Ev_ne rfl (fun c6 => ?_) (fun c6 => ?_)
      · rw [if_pos c6] at hf
        refine gi_EvN 1 (pc' := 32) (lv' := [some (.ref x0), some (.int x1), some (.int x2), some (.int x3), none, none]) (st' := [.int (-2)]) (h' := h) rfl ?_
        cases hf
        exact gi_EvR rfl rfl
      · rw [if_neg c6] at hf
        refine gi_EvN 4 (pc' := 39) (lv' := [some (.ref x0), some (.int x1), some (.int x2), some (.int x3), some (.int 0), some (.int 1)]) (st' := []) (h' := h) rfl ?_
        exact e_X6_tells_39 h gi_F _ _ _ _ _ _ _ hf
/-! X6_parts AdmiralGuineaModel.parts()I -/
def f_X6_parts_34 (k_4 : Int32 → Int32 → Option Int32) (k_12 : Int32 → Int32 → Int32 → Option Int32) (k_24 : Int32 → Int32 → Int32 → Int32 → Int32 → Option Int32) : Nat → Int32 → Int32 → Int32 → Int32 → Int32 → Int32 → Option Int32
  | 0, _, _, _, _, _, _ => none
  | n + 1, x1, x2, x3, x4, x5, x6 => if x5 ≤ x6 then k_24 x1 x2 x3 x4 (x5 + 1)
  else if x4 = 0 then f_X6_parts_34 k_4 k_12 k_24 n x1 x2 x3 0 x5 (x6 + 1)
  else (f_X6_priceOf (10 * x2) x5 x3).bind fun y3 => (f_X6_priceOf (10 * x2) x6 x3).bind fun y4 => if y3 = y4 then f_X6_parts_34 k_4 k_12 k_24 n x1 x2 x3 0 x5 (x6 + 1)
  else f_X6_parts_34 k_4 k_12 k_24 n x1 x2 x3 1 x5 (x6 + 1)
set_option maxRecDepth 20000 in
set_option maxHeartbeats 2000000 in
theorem e_X6_parts_34 (h : gi_H) (k_4 : Int32 → Int32 → Option Int32) (hk_4 : ∀ (g0 : Option Value) (g3 : Option Value) (g4 : Option Value) (g5 : Option Value) (g6 : Option Value) (x1 : Int32) (x2 : Int32) (r : Int32), k_4 x1 x2 = some r → gi_Ev M_X6_parts 4 [g0, some (.int x1), some (.int x2), g3, g4, g5, g6] [] h (some (.int r), h)) (k_12 : Int32 → Int32 → Int32 → Option Int32) (hk_12 : ∀ (g0 : Option Value) (g4 : Option Value) (g5 : Option Value) (g6 : Option Value) (x1 : Int32) (x2 : Int32) (x3 : Int32) (r : Int32), k_12 x1 x2 x3 = some r → gi_Ev M_X6_parts 12 [g0, some (.int x1), some (.int x2), some (.int x3), g4, g5, g6] [] h (some (.int r), h)) (k_24 : Int32 → Int32 → Int32 → Int32 → Int32 → Option Int32) (hk_24 : ∀ (g0 : Option Value) (g6 : Option Value) (x1 : Int32) (x2 : Int32) (x3 : Int32) (x4 : Int32) (x5 : Int32) (r : Int32), k_24 x1 x2 x3 x4 x5 = some r → gi_Ev M_X6_parts 24 [g0, some (.int x1), some (.int x2), some (.int x3), some (.int x4), some (.int x5), g6] [] h (some (.int r), h)) : ∀ (n : Nat) (g0 : Option Value) (x1 : Int32) (x2 : Int32) (x3 : Int32) (x4 : Int32) (x5 : Int32) (x6 : Int32) (r : Int32), f_X6_parts_34 k_4 k_12 k_24 n x1 x2 x3 x4 x5 x6 = some r → gi_Ev M_X6_parts 34 [g0, some (.int x1), some (.int x2), some (.int x3), some (.int x4), some (.int x5), some (.int x6)] [] h (some (.int r), h) := by
  intro n
  induction n with
  | zero =>
    intro g0 x1 x2 x3 x4 x5 x6 r hf
    unfold f_X6_parts_34 at hf
    cases hf
  | succ n ih =>
    intro g0 x1 x2 x3 x4 x5 x6 r hf
    unfold f_X6_parts_34 at hf
    refine gi_EvN 2 (pc' := 38) (lv' := [g0, some (.int x1), some (.int x2), some (.int x3), some (.int x4), some (.int x5), some (.int x6)]) (st' := [.int x5, .int x6]) (h' := h) rfl ?_
    refine gi_Ev_ige rfl (fun c1 => ?_) (fun c1 => ?_)
    · rw [if_pos c1] at hf
      refine gi_EvN 2 (pc' := 24) (lv' := [g0, some (.int x1), some (.int x2), some (.int x3), some (.int x4), some (.int (x5 + 1)), some (.int x6)]) (st' := []) (h' := h) rfl ?_
      exact hk_24 _ _  _  _  _  _  _ _ hf
    · rw [if_neg c1] at hf
      refine gi_EvN 1 (pc' := 43) (lv' := [g0, some (.int x1), some (.int x2), some (.int x3), some (.int x4), some (.int x5), some (.int x6)]) (st' := [.int x4]) (h' := h) rfl ?_
      refine gi_Ev_eq rfl (fun c2 => ?_) (fun c2 => ?_)
      · rw [if_pos c2] at hf
        refine gi_EvN 4 (pc' := 34) (lv' := [g0, some (.int x1), some (.int x2), some (.int x3), some (.int 0), some (.int x5), some (.int (x6 + 1))]) (st' := []) (h' := h) rfl ?_
        exact ih _  _  _  _  _  _  _ _ hf
      · rw [if_neg c2] at hf
        refine gi_EvN 5 (pc' := 53) (lv' := [g0, some (.int x1), some (.int x2), some (.int x3), some (.int x4), some (.int x5), some (.int x6)]) (st' := [.int x3, .int x5, .int (10 * x2)]) (h' := h) rfl ?_
        obtain ⟨y3, qy3, hf⟩ := gi_bind hf
        refine gi_EvCS rfl rfl rfl rfl rfl (e_X6_priceOf h _ _ _ _ qy3) ?_
        show gi_Ev M_X6_parts 56 [g0, some (.int x1), some (.int x2), some (.int x3), some (.int x4), some (.int x5), some (.int x6)] [.int y3] h _
        refine gi_EvN 5 (pc' := 63) (lv' := [g0, some (.int x1), some (.int x2), some (.int x3), some (.int x4), some (.int x5), some (.int x6)]) (st' := [.int x3, .int x6, .int (10 * x2), .int y3]) (h' := h) rfl ?_
        obtain ⟨y4, qy4, hf⟩ := gi_bind hf
        refine gi_EvCS rfl rfl rfl rfl rfl (e_X6_priceOf h _ _ _ _ qy4) ?_
        show gi_Ev M_X6_parts 66 [g0, some (.int x1), some (.int x2), some (.int x3), some (.int x4), some (.int x5), some (.int x6)] [.int y4, .int y3] h _
        refine gi_Ev_ieq rfl (fun c5 => ?_) (fun c5 => ?_)
        · rw [if_pos c5] at hf
          refine gi_EvN 4 (pc' := 34) (lv' := [g0, some (.int x1), some (.int x2), some (.int x3), some (.int 0), some (.int x5), some (.int (x6 + 1))]) (st' := []) (h' := h) rfl ?_
          exact ih _  _  _  _  _  _  _ _ hf
        · rw [if_neg c5] at hf
          refine gi_EvN 5 (pc' := 34) (lv' := [g0, some (.int x1), some (.int x2), some (.int x3), some (.int 1), some (.int x5), some (.int (x6 + 1))]) (st' := []) (h' := h) rfl ?_
          exact ih _  _  _  _  _  _  _ _ hf
def f_X6_parts_88 (k_4 : Int32 → Int32 → Option Int32) (k_12 : Int32 → Int32 → Int32 → Option Int32) (x1 : Int32) (x2 : Int32) (x3 : Int32) (x4 : Int32) : Option Int32 :=
  if x4 = 0 then k_12 (x1 + 0) x2 (x3 + 1)
  else k_12 (x1 + 1) x2 (x3 + 1)
set_option maxRecDepth 20000 in
set_option maxHeartbeats 2000000 in
theorem e_X6_parts_88 (h : gi_H) (k_4 : Int32 → Int32 → Option Int32) (hk_4 : ∀ (g0 : Option Value) (g3 : Option Value) (g4 : Option Value) (g5 : Option Value) (g6 : Option Value) (x1 : Int32) (x2 : Int32) (r : Int32), k_4 x1 x2 = some r → gi_Ev M_X6_parts 4 [g0, some (.int x1), some (.int x2), g3, g4, g5, g6] [] h (some (.int r), h)) (k_12 : Int32 → Int32 → Int32 → Option Int32) (hk_12 : ∀ (g0 : Option Value) (g4 : Option Value) (g5 : Option Value) (g6 : Option Value) (x1 : Int32) (x2 : Int32) (x3 : Int32) (r : Int32), k_12 x1 x2 x3 = some r → gi_Ev M_X6_parts 12 [g0, some (.int x1), some (.int x2), some (.int x3), g4, g5, g6] [] h (some (.int r), h)) (g0 : Option Value) (g5 : Option Value) (g6 : Option Value) (x1 : Int32) (x2 : Int32) (x3 : Int32) (x4 : Int32) (r : Int32) (hf : f_X6_parts_88 k_4 k_12 x1 x2 x3 x4 = some r) : gi_Ev M_X6_parts 88 [g0, some (.int x1), some (.int x2), some (.int x3), some (.int x4), g5, g6] [] h (some (.int r), h) := by
  unfold f_X6_parts_88 at hf
  refine gi_EvN 2 (pc' := 91) (lv' := [g0, some (.int x1), some (.int x2), some (.int x3), some (.int x4), g5, g6]) (st' := [.int x4, .int x1]) (h' := h) rfl ?_
  refine gi_Ev_eq rfl (fun c1 => ?_) (fun c1 => ?_)
  · rw [if_pos c1] at hf
    refine gi_EvN 5 (pc' := 12) (lv' := [(gi_cl g0), some (.int (x1 + 0)), some (.int x2), some (.int (x3 + 1)), some (.int x4), g5, g6]) (st' := []) (h' := h) rfl ?_
    exact hk_12 _ _ _ _  _  _  _ _ hf
  · rw [if_neg c1] at hf
    refine gi_EvN 6 (pc' := 12) (lv' := [(gi_cl g0), some (.int (x1 + 1)), some (.int x2), some (.int (x3 + 1)), some (.int x4), g5, g6]) (st' := []) (h' := h) rfl ?_
    exact hk_12 _ _ _ _  _  _  _ _ hf
def f_X6_parts_24 (k_4 : Int32 → Int32 → Option Int32) (k_12 : Int32 → Int32 → Int32 → Option Int32) : Nat → Int32 → Int32 → Int32 → Int32 → Int32 → Option Int32
  | 0, _, _, _, _, _ => none
  | n + 1, x1, x2, x3, x4, x5 => if 10 ≤ x5 then f_X6_parts_88 k_4 k_12 x1 x2 x3 x4
  else f_X6_parts_34 k_4 k_12 (f_X6_parts_24 k_4 k_12 n) gi_F x1 x2 x3 x4 x5 1
set_option maxRecDepth 20000 in
set_option maxHeartbeats 2000000 in
theorem e_X6_parts_24 (h : gi_H) (k_4 : Int32 → Int32 → Option Int32) (hk_4 : ∀ (g0 : Option Value) (g3 : Option Value) (g4 : Option Value) (g5 : Option Value) (g6 : Option Value) (x1 : Int32) (x2 : Int32) (r : Int32), k_4 x1 x2 = some r → gi_Ev M_X6_parts 4 [g0, some (.int x1), some (.int x2), g3, g4, g5, g6] [] h (some (.int r), h)) (k_12 : Int32 → Int32 → Int32 → Option Int32) (hk_12 : ∀ (g0 : Option Value) (g4 : Option Value) (g5 : Option Value) (g6 : Option Value) (x1 : Int32) (x2 : Int32) (x3 : Int32) (r : Int32), k_12 x1 x2 x3 = some r → gi_Ev M_X6_parts 12 [g0, some (.int x1), some (.int x2), some (.int x3), g4, g5, g6] [] h (some (.int r), h)) : ∀ (n : Nat) (g0 : Option Value) (g6 : Option Value) (x1 : Int32) (x2 : Int32) (x3 : Int32) (x4 : Int32) (x5 : Int32) (r : Int32), f_X6_parts_24 k_4 k_12 n x1 x2 x3 x4 x5 = some r → gi_Ev M_X6_parts 24 [g0, some (.int x1), some (.int x2), some (.int x3), some (.int x4), some (.int x5), g6] [] h (some (.int r), h) := by
  intro n
  induction n with
  | zero =>
    intro g0 g6 x1 x2 x3 x4 x5 r hf
    unfold f_X6_parts_24 at hf
    cases hf
  | succ n ih =>
    intro g0 g6 x1 x2 x3 x4 x5 r hf
    unfold f_X6_parts_24 at hf
    refine gi_EvN 2 (pc' := 28) (lv' := [g0, some (.int x1), some (.int x2), some (.int x3), some (.int x4), some (.int x5), g6]) (st' := [.int 10, .int x5]) (h' := h) rfl ?_
    refine gi_Ev_ige rfl (fun c1 => ?_) (fun c1 => ?_)
    · rw [if_pos c1] at hf
      exact e_X6_parts_88 h _ hk_4 _ hk_12 _ _ _ _ _ _ _ _ hf
    · rw [if_neg c1] at hf
      refine gi_EvN 2 (pc' := 34) (lv' := [g0, some (.int x1), some (.int x2), some (.int x3), some (.int x4), some (.int x5), some (.int 1)]) (st' := []) (h' := h) rfl ?_
      exact e_X6_parts_34 h _ hk_4 _ hk_12 _ ih gi_F _ _ _ _ _ _ _ _ hf
def f_X6_parts_12 (k_4 : Int32 → Int32 → Option Int32) : Nat → Int32 → Int32 → Int32 → Option Int32
  | 0, _, _, _ => none
  | n + 1, x1, x2, x3 => if 10 ≤ x3 then k_4 x1 (x2 + 1)
  else f_X6_parts_24 k_4 (f_X6_parts_12 k_4 n) gi_F x1 x2 x3 1 1
set_option maxRecDepth 20000 in
set_option maxHeartbeats 2000000 in
theorem e_X6_parts_12 (h : gi_H) (k_4 : Int32 → Int32 → Option Int32) (hk_4 : ∀ (g0 : Option Value) (g3 : Option Value) (g4 : Option Value) (g5 : Option Value) (g6 : Option Value) (x1 : Int32) (x2 : Int32) (r : Int32), k_4 x1 x2 = some r → gi_Ev M_X6_parts 4 [g0, some (.int x1), some (.int x2), g3, g4, g5, g6] [] h (some (.int r), h)) : ∀ (n : Nat) (g0 : Option Value) (g4 : Option Value) (g5 : Option Value) (g6 : Option Value) (x1 : Int32) (x2 : Int32) (x3 : Int32) (r : Int32), f_X6_parts_12 k_4 n x1 x2 x3 = some r → gi_Ev M_X6_parts 12 [g0, some (.int x1), some (.int x2), some (.int x3), g4, g5, g6] [] h (some (.int r), h) := by
  intro n
  induction n with
  | zero =>
    intro g0 g4 g5 g6 x1 x2 x3 r hf
    unfold f_X6_parts_12 at hf
    cases hf
  | succ n ih =>
    intro g0 g4 g5 g6 x1 x2 x3 r hf
    unfold f_X6_parts_12 at hf
    refine gi_EvN 2 (pc' := 15) (lv' := [g0, some (.int x1), some (.int x2), some (.int x3), g4, g5, g6]) (st' := [.int 10, .int x3]) (h' := h) rfl ?_
    refine gi_Ev_ige rfl (fun c1 => ?_) (fun c1 => ?_)
    · rw [if_pos c1] at hf
      refine gi_EvN 2 (pc' := 4) (lv' := [g0, some (.int x1), some (.int (x2 + 1)), some (.int x3), g4, g5, g6]) (st' := []) (h' := h) rfl ?_
      exact hk_4 _ _ _ _ _  _  _ _ hf
    · rw [if_neg c1] at hf
      refine gi_EvN 4 (pc' := 24) (lv' := [g0, some (.int x1), some (.int x2), some (.int x3), some (.int 1), some (.int 1), g6]) (st' := []) (h' := h) rfl ?_
      exact e_X6_parts_24 h _ hk_4 _ ih gi_F _ _ _ _ _ _ _ _ hf
def f_X6_parts_4 : Nat → Int32 → Int32 → Option Int32
  | 0, _, _ => none
  | n + 1, x1, x2 => if 10 ≤ x2 then some (x1)
  else f_X6_parts_12 (f_X6_parts_4 n) gi_F x1 x2 1
set_option maxRecDepth 20000 in
set_option maxHeartbeats 2000000 in
theorem e_X6_parts_4 (h : gi_H) : ∀ (n : Nat) (g0 : Option Value) (g3 : Option Value) (g4 : Option Value) (g5 : Option Value) (g6 : Option Value) (x1 : Int32) (x2 : Int32) (r : Int32), f_X6_parts_4 n x1 x2 = some r → gi_Ev M_X6_parts 4 [g0, some (.int x1), some (.int x2), g3, g4, g5, g6] [] h (some (.int r), h) := by
  intro n
  induction n with
  | zero =>
    intro g0 g3 g4 g5 g6 x1 x2 r hf
    unfold f_X6_parts_4 at hf
    cases hf
  | succ n ih =>
    intro g0 g3 g4 g5 g6 x1 x2 r hf
    unfold f_X6_parts_4 at hf
    refine gi_EvN 2 (pc' := 7) (lv' := [g0, some (.int x1), some (.int x2), g3, g4, g5, g6]) (st' := [.int 10, .int x2]) (h' := h) rfl ?_
    refine gi_Ev_ige rfl (fun c1 => ?_) (fun c1 => ?_)
    · rw [if_pos c1] at hf
      refine gi_EvN 1 (pc' := 114) (lv' := [g0, some (.int x1), some (.int x2), g3, g4, g5, g6]) (st' := [.int x1]) (h' := h) rfl ?_
      cases hf
      exact gi_EvR rfl rfl
    · rw [if_neg c1] at hf
      refine gi_EvN 2 (pc' := 12) (lv' := [g0, some (.int x1), some (.int x2), some (.int 1), g4, g5, g6]) (st' := []) (h' := h) rfl ?_
      exact e_X6_parts_12 h _ ih gi_F _ _ _ _ _ _ _ _ hf
def f_X6_parts (x0 : Nat) : Option Int32 :=
  f_X6_parts_4 gi_F 0 1
set_option maxRecDepth 20000 in
set_option maxHeartbeats 2000000 in
theorem e_X6_parts (h : gi_H) (x0 : Nat) (r : Int32) (hf : f_X6_parts x0 = some r) : gi_Ev M_X6_parts 0 [some (.ref x0), none, none, none, none, none, none] [] h (some (.int r), h) := by
  unfold f_X6_parts at hf
  refine gi_EvN 4 (pc' := 4) (lv' := [some (.ref x0), some (.int 0), some (.int 1), none, none, none, none]) (st' := []) (h' := h) rfl ?_
  exact e_X6_parts_4 h gi_F _ _ _ _ _ _ _ _ hf
/-! X6_seen AdmiralGuineaModel.seen(III)I -/
def f_X6_seen (h : gi_H) (x0 : Nat) (x1 : Int32) (x2 : Int32) (x3 : Int32) : Option (Int32 × gi_H) :=
  (f_X6_isBuyer x1).bind fun y1 => if y1 = 0 then some ((-1), h)
  else (f_X6_isLife x2).bind fun y3 => if y3 = 0 then some ((-1), h)
  else (f_X6_in x3 0 999).bind fun y5 => if y5 = 0 then some ((-2), h)
  else (gi_fI h x0 6 2).bind fun y7 => if y7 = 8 then some ((-4), h)
  else (gi_fR h x0 6 3).bind fun y9 => (gi_fI h x0 6 2).bind fun y10 => (gi_pi h y9 0 (3 * y10) x1).bind fun h11 => (gi_fR h11 x0 6 3).bind fun y12 => (gi_fI h11 x0 6 2).bind fun y13 => (gi_pi h11 y12 0 ((3 * y13) + 1) x2).bind fun h14 => (gi_fR h14 x0 6 3).bind fun y15 => (gi_fI h14 x0 6 2).bind fun y16 => (gi_pi h14 y15 0 ((3 * y16) + 2) x3).bind fun h17 => (gi_fI h17 x0 6 2).bind fun y18 => (gi_fp h17 x0 6 2 (.int (y18 + 1))).bind fun h19 => (gi_fI h19 x0 6 2).bind fun y20 => some (y20, h19)
set_option maxRecDepth 20000 in
set_option maxHeartbeats 2000000 in
theorem e_X6_seen (h : gi_H) (x0 : Nat) (x1 : Int32) (x2 : Int32) (x3 : Int32) (r : (Int32 × gi_H)) (hf : f_X6_seen h x0 x1 x2 x3 = some r) : gi_Ev M_X6_seen 0 [some (.ref x0), some (.int x1), some (.int x2), some (.int x3)] [] h (some (.int r.1), r.2) := by
  unfold f_X6_seen at hf
  refine gi_EvN 1 (pc' := 1) (lv' := [some (.ref x0), some (.int x1), some (.int x2), some (.int x3)]) (st' := [.int x1]) (h' := h) rfl ?_
  obtain ⟨y1, qy1, hf⟩ := gi_bind hf
  refine gi_EvCS rfl rfl rfl rfl rfl (e_X6_isBuyer h _ _ qy1) ?_
  show gi_Ev M_X6_seen 4 [some (.ref x0), some (.int x1), some (.int x2), some (.int x3)] [.int y1] h _
  refine gi_Ev_eq rfl (fun c2 => ?_) (fun c2 => ?_)
  · rw [if_pos c2] at hf
    refine gi_EvN 1 (pc' := 15) (lv' := [some (.ref x0), some (.int x1), some (.int x2), some (.int x3)]) (st' := [.int (-1)]) (h' := h) rfl ?_
    cases hf
    exact gi_EvR rfl rfl
  · rw [if_neg c2] at hf
    refine gi_EvN 1 (pc' := 8) (lv' := [some (.ref x0), some (.int x1), some (.int x2), some (.int x3)]) (st' := [.int x2]) (h' := h) rfl ?_
    obtain ⟨y3, qy3, hf⟩ := gi_bind hf
    refine gi_EvCS rfl rfl rfl rfl rfl (e_X6_isLife h _ _ qy3) ?_
    show gi_Ev M_X6_seen 11 [some (.ref x0), some (.int x1), some (.int x2), some (.int x3)] [.int y3] h _
    refine gi_Ev_ne rfl (fun c4 => ?_) (fun c4 => ?_)
    · rw [if_pos c4] at hf
      refine gi_EvN 1 (pc' := 15) (lv' := [some (.ref x0), some (.int x1), some (.int x2), some (.int x3)]) (st' := [.int (-1)]) (h' := h) rfl ?_
      cases hf
      exact gi_EvR rfl rfl
    · rw [if_neg c4] at hf
      refine gi_EvN 3 (pc' := 21) (lv' := [some (.ref x0), some (.int x1), some (.int x2), some (.int x3)]) (st' := [.int 999, .int 0, .int x3]) (h' := h) rfl ?_
      obtain ⟨y5, qy5, hf⟩ := gi_bind hf
      refine gi_EvCS rfl rfl rfl rfl rfl (e_X6_in h _ _ _ _ qy5) ?_
      show gi_Ev M_X6_seen 24 [some (.ref x0), some (.int x1), some (.int x2), some (.int x3)] [.int y5] h _
      refine gi_Ev_ne rfl (fun c6 => ?_) (fun c6 => ?_)
      · rw [if_pos c6] at hf
        refine gi_EvN 1 (pc' := 29) (lv' := [some (.ref x0), some (.int x1), some (.int x2), some (.int x3)]) (st' := [.int (-2)]) (h' := h) rfl ?_
        cases hf
        exact gi_EvR rfl rfl
      · rw [if_neg c6] at hf
        refine gi_EvN 1 (pc' := 31) (lv' := [some (.ref x0), some (.int x1), some (.int x2), some (.int x3)]) (st' := [.ref x0]) (h' := h) rfl ?_
        obtain ⟨y7, qy7, hf⟩ := gi_bind hf
        refine gi_EvF rfl (gi_fI_inv qy7) ?_
        refine gi_EvN 1 (pc' := 36) (lv' := [some (.ref x0), some (.int x1), some (.int x2), some (.int x3)]) (st' := [.int 8, .int y7]) (h' := h) rfl ?_
        refine gi_Ev_ine rfl (fun c8 => ?_) (fun c8 => ?_)
        · rw [if_pos c8] at hf
          refine gi_EvN 1 (pc' := 41) (lv' := [some (.ref x0), some (.int x1), some (.int x2), some (.int x3)]) (st' := [.int (-4)]) (h' := h) rfl ?_
          cases hf
          exact gi_EvR rfl rfl
        · rw [if_neg c8] at hf
          refine gi_EvN 1 (pc' := 43) (lv' := [some (.ref x0), some (.int x1), some (.int x2), some (.int x3)]) (st' := [.ref x0]) (h' := h) rfl ?_
          obtain ⟨y9, qy9, hf⟩ := gi_bind hf
          refine gi_EvF rfl (gi_fR_inv qy9) ?_
          refine gi_EvN 2 (pc' := 48) (lv' := [some (.ref x0), some (.int x1), some (.int x2), some (.int x3)]) (st' := [.ref x0, .int 3, .ref y9]) (h' := h) rfl ?_
          obtain ⟨y10, qy10, hf⟩ := gi_bind hf
          refine gi_EvF rfl (gi_fI_inv qy10) ?_
          refine gi_EvN 2 (pc' := 53) (lv' := [some (.ref x0), some (.int x1), some (.int x2), some (.int x3)]) (st' := [.int x1, .int (3 * y10), .ref y9]) (h' := h) rfl ?_
          obtain ⟨h11, qh11, hf⟩ := gi_bind hf
          refine gi_EvPi rfl qh11 ?_
          refine gi_EvN 1 (pc' := 55) (lv' := [some (.ref x0), some (.int x1), some (.int x2), some (.int x3)]) (st' := [.ref x0]) (h' := h11) rfl ?_
          obtain ⟨y12, qy12, hf⟩ := gi_bind hf
          refine gi_EvF rfl (gi_fR_inv qy12) ?_
          refine gi_EvN 2 (pc' := 60) (lv' := [some (.ref x0), some (.int x1), some (.int x2), some (.int x3)]) (st' := [.ref x0, .int 3, .ref y12]) (h' := h11) rfl ?_
          obtain ⟨y13, qy13, hf⟩ := gi_bind hf
          refine gi_EvF rfl (gi_fI_inv qy13) ?_
          refine gi_EvN 4 (pc' := 67) (lv' := [some (.ref x0), some (.int x1), some (.int x2), some (.int x3)]) (st' := [.int x2, .int ((3 * y13) + 1), .ref y12]) (h' := h11) rfl ?_
          obtain ⟨h14, qh14, hf⟩ := gi_bind hf
          refine gi_EvPi rfl qh14 ?_
          refine gi_EvN 1 (pc' := 69) (lv' := [some (.ref x0), some (.int x1), some (.int x2), some (.int x3)]) (st' := [.ref x0]) (h' := h14) rfl ?_
          obtain ⟨y15, qy15, hf⟩ := gi_bind hf
          refine gi_EvF rfl (gi_fR_inv qy15) ?_
          refine gi_EvN 2 (pc' := 74) (lv' := [some (.ref x0), some (.int x1), some (.int x2), some (.int x3)]) (st' := [.ref x0, .int 3, .ref y15]) (h' := h14) rfl ?_
          obtain ⟨y16, qy16, hf⟩ := gi_bind hf
          refine gi_EvF rfl (gi_fI_inv qy16) ?_
          refine gi_EvN 4 (pc' := 81) (lv' := [some (.ref x0), some (.int x1), some (.int x2), some (.int x3)]) (st' := [.int x3, .int ((3 * y16) + 2), .ref y15]) (h' := h14) rfl ?_
          obtain ⟨h17, qh17, hf⟩ := gi_bind hf
          refine gi_EvPi rfl qh17 ?_
          refine gi_EvN 2 (pc' := 84) (lv' := [some (.ref x0), some (.int x1), some (.int x2), some (.int x3)]) (st' := [.ref x0, .ref x0]) (h' := h17) rfl ?_
          obtain ⟨y18, qy18, hf⟩ := gi_bind hf
          refine gi_EvF rfl (gi_fI_inv qy18) ?_
          refine gi_EvN 2 (pc' := 89) (lv' := [some (.ref x0), some (.int x1), some (.int x2), some (.int x3)]) (st' := [.int (y18 + 1), .ref x0]) (h' := h17) rfl ?_
          obtain ⟨h19, qh19, hf⟩ := gi_bind hf
          refine gi_EvFp rfl rfl qh19 ?_
          refine gi_EvN 1 (pc' := 93) (lv' := [some (.ref x0), some (.int x1), some (.int x2), some (.int x3)]) (st' := [.ref x0]) (h' := h19) rfl ?_
          obtain ⟨y20, qy20, hf⟩ := gi_bind hf
          refine gi_EvF rfl (gi_fI_inv qy20) ?_
          cases hf
          exact gi_EvR rfl rfl
/-! X6_forget AdmiralGuineaModel.forget()I -/
def f_X6_forget (h : gi_H) (x0 : Nat) : Option (Int32 × gi_H) :=
  (gi_fI h x0 6 2).bind fun y1 => (gi_fp h x0 6 2 (.int 0)).bind fun h2 => some (y1, h2)
set_option maxRecDepth 20000 in
set_option maxHeartbeats 2000000 in
theorem e_X6_forget (h : gi_H) (x0 : Nat) (r : (Int32 × gi_H)) (hf : f_X6_forget h x0 = some r) : gi_Ev M_X6_forget 0 [some (.ref x0), none] [] h (some (.int r.1), r.2) := by
  unfold f_X6_forget at hf
  refine gi_EvN 1 (pc' := 1) (lv' := [some (.ref x0), none]) (st' := [.ref x0]) (h' := h) rfl ?_
  obtain ⟨y1, qy1, hf⟩ := gi_bind hf
  refine gi_EvF rfl (gi_fI_inv qy1) ?_
  refine gi_EvN 3 (pc' := 7) (lv' := [some (.ref x0), some (.int y1)]) (st' := [.int 0, .ref x0]) (h' := h) rfl ?_
  obtain ⟨h2, qh2, hf⟩ := gi_bind hf
  refine gi_EvFp rfl rfl qh2 ?_
  refine gi_EvN 1 (pc' := 11) (lv' := [some (.ref x0), some (.int y1)]) (st' := [.int y1]) (h' := h2) rfl ?_
  cases hf
  exact gi_EvR rfl rfl
/-! X6_gainsIn AdmiralGuineaModel.gainsIn(III)I -/
def f_X6_gainsIn_17 (h : gi_H) (x1 : Int32) (t0 : Nat) (t1 : Int32) (t2 : Int32) (t3 : Int32) : Option Int32 :=
  if gi_is h t0 6 = true then (f_X6_gainsBy h t0 t1 t2 t3 (x1 - x1 / 4 * 4)).bind fun y1 => some (y1) else none
set_option maxRecDepth 20000 in
set_option maxHeartbeats 2000000 in
theorem e_X6_gainsIn_17 (h : gi_H) (g0 : Option Value) (g2 : Option Value) (g3 : Option Value) (x1 : Int32) (t0 : Nat) (t1 : Int32) (t2 : Int32) (t3 : Int32) (r : Int32) (hf : f_X6_gainsIn_17 h x1 t0 t1 t2 t3 = some r) : gi_Ev M_X6_gainsIn 17 [g0, some (.int x1), g2, g3] [.int t3, .int t2, .int t1, .ref t0] h (some (.int r), h) := by
  unfold f_X6_gainsIn_17 at hf
  refine gi_EvN 2 (pc' := 19) (lv' := [g0, some (.int x1), g2, g3]) (st' := [.int 4, .int x1, .int t3, .int t2, .int t1, .ref t0]) (h' := h) rfl ?_
  refine gi_EvRi rfl (by decide) ?_
  by_cases c2 : gi_is h t0 6 = true
  rotate_left
  · rw [if_neg c2] at hf; cases hf
  rw [if_pos c2] at hf
  obtain ⟨y1, qy1, hf⟩ := gi_bind hf
  refine gi_EvCV rfl rfl c2 rfl rfl (e_X6_gainsBy h _ _ _ _ _ _ qy1) ?_
  show gi_Ev M_X6_gainsIn 23 [g0, some (.int x1), g2, g3] [.int y1] h _
  cases hf
  exact gi_EvR rfl rfl
def f_X6_gainsIn (h : gi_H) (x0 : Nat) (x1 : Int32) (x2 : Int32) (x3 : Int32) : Option Int32 :=
  if x1 = 48 then f_X6_gainsIn_17 h x1 x0 x2 x3 (-6)
  else f_X6_gainsIn_17 h x1 x0 x2 x3 (x1 / 4)
set_option maxRecDepth 20000 in
set_option maxHeartbeats 2000000 in
theorem e_X6_gainsIn (h : gi_H) (x0 : Nat) (x1 : Int32) (x2 : Int32) (x3 : Int32) (r : Int32) (hf : f_X6_gainsIn h x0 x1 x2 x3 = some r) : gi_Ev M_X6_gainsIn 0 [some (.ref x0), some (.int x1), some (.int x2), some (.int x3)] [] h (some (.int r), h) := by
  unfold f_X6_gainsIn at hf
  refine gi_EvN 5 (pc' := 6) (lv' := [some (.ref x0), some (.int x1), some (.int x2), some (.int x3)]) (st' := [.int 48, .int x1, .int x3, .int x2, .ref x0]) (h' := h) rfl ?_
  refine gi_Ev_ine rfl (fun c1 => ?_) (fun c1 => ?_)
  · rw [if_pos c1] at hf
    refine gi_EvN 2 (pc' := 17) (lv' := [some (.ref x0), some (.int x1), some (.int x2), some (.int x3)]) (st' := [.int (-6), .int x3, .int x2, .ref x0]) (h' := h) rfl ?_
    exact e_X6_gainsIn_17 h _ _ _ _ _ _ _ _ _ hf
  · rw [if_neg c1] at hf
    refine gi_EvN 2 (pc' := 16) (lv' := [some (.ref x0), some (.int x1), some (.int x2), some (.int x3)]) (st' := [.int 4, .int x1, .int x3, .int x2, .ref x0]) (h' := h) rfl ?_
    refine gi_EvDi rfl (by decide) ?_
    exact e_X6_gainsIn_17 h _ _ _ _ _ _ _ _ _ hf
/-! X6_isWorld AdmiralGuineaModel.isWorld(I)Z -/
def f_X6_isWorld_49 (h : gi_H) : Nat → Nat → Int32 → Int32 → Int32 → Option Int32
  | 0, _, _, _, _ => none
  | n + 1, x0, x1, x2, x3 => (gi_fI h x0 6 2).bind fun y1 => if y1 ≤ x3 then if x2 = 0 ∨ x2 = 1 then some (x2) else none
  else if x2 = 0 then if x2 = 0 ∨ x2 = 1 then some (x2) else none
  else (gi_fR h x0 6 3).bind fun y6 => (gi_ai h y6 0 (3 * x3)).bind fun y7 => (gi_fR h x0 6 3).bind fun y8 => (gi_ai h y8 0 ((3 * x3) + 1)).bind fun y9 => if gi_is h x0 6 = true then (f_X6_gainsIn h x0 x1 y7 y9).bind fun y10 => (gi_fR h x0 6 3).bind fun y12 => (gi_ai h y12 0 ((3 * x3) + 2)).bind fun y13 => if y10 = y13 then f_X6_isWorld_49 h n x0 x1 1 (x3 + 1)
  else f_X6_isWorld_49 h n x0 x1 0 (x3 + 1) else none
set_option maxRecDepth 20000 in
set_option maxHeartbeats 2000000 in
theorem e_X6_isWorld_49 (h : gi_H) : ∀ (n : Nat) (x0 : Nat) (x1 : Int32) (x2 : Int32) (x3 : Int32) (r : Int32), f_X6_isWorld_49 h n x0 x1 x2 x3 = some r → gi_Ev M_X6_isWorld 49 [some (.ref x0), some (.int x1), some (.int x2), some (.int x3)] [] h (some (.int r), h) := by
  intro n
  induction n with
  | zero =>
    intro x0 x1 x2 x3 r hf
    unfold f_X6_isWorld_49 at hf
    cases hf
  | succ n ih =>
    intro x0 x1 x2 x3 r hf
    unfold f_X6_isWorld_49 at hf
    refine gi_EvN 2 (pc' := 51) (lv' := [some (.ref x0), some (.int x1), some (.int x2), some (.int x3)]) (st' := [.ref x0, .int x3]) (h' := h) rfl ?_
    obtain ⟨y1, qy1, hf⟩ := gi_bind hf
    refine gi_EvF rfl (gi_fI_inv qy1) ?_
    refine gi_Ev_ige rfl (fun c2 => ?_) (fun c2 => ?_)
    · rw [if_pos c2] at hf
      refine gi_EvN 1 (pc' := 110) (lv' := [some (.ref x0), some (.int x1), some (.int x2), some (.int x3)]) (st' := [.int x2]) (h' := h) rfl ?_
      by_cases c3 : x2 = 0 ∨ x2 = 1
      rotate_left
      · rw [if_neg c3] at hf; cases hf
      rw [if_pos c3] at hf
      cases hf
      exact gi_EvRz rfl rfl c3
    · rw [if_neg c2] at hf
      refine gi_EvN 1 (pc' := 58) (lv' := [some (.ref x0), some (.int x1), some (.int x2), some (.int x3)]) (st' := [.int x2]) (h' := h) rfl ?_
      refine gi_Ev_eq rfl (fun c4 => ?_) (fun c4 => ?_)
      · rw [if_pos c4] at hf
        refine gi_EvN 1 (pc' := 110) (lv' := [some (.ref x0), some (.int x1), some (.int x2), some (.int x3)]) (st' := [.int x2]) (h' := h) rfl ?_
        by_cases c5 : x2 = 0 ∨ x2 = 1
        rotate_left
        · rw [if_neg c5] at hf; cases hf
        rw [if_pos c5] at hf
        cases hf
        exact gi_EvRz rfl rfl c5
      · rw [if_neg c4] at hf
        refine gi_EvN 3 (pc' := 64) (lv' := [some (.ref x0), some (.int x1), some (.int x2), some (.int x3)]) (st' := [.ref x0, .int x1, .ref x0]) (h' := h) rfl ?_
        obtain ⟨y6, qy6, hf⟩ := gi_bind hf
        refine gi_EvF rfl (gi_fR_inv qy6) ?_
        refine gi_EvN 3 (pc' := 70) (lv' := [some (.ref x0), some (.int x1), some (.int x2), some (.int x3)]) (st' := [.int (3 * x3), .ref y6, .int x1, .ref x0]) (h' := h) rfl ?_
        obtain ⟨y7, qy7, hf⟩ := gi_bind hf
        refine gi_EvAi rfl qy7 ?_
        refine gi_EvN 1 (pc' := 72) (lv' := [some (.ref x0), some (.int x1), some (.int x2), some (.int x3)]) (st' := [.ref x0, .int y7, .int x1, .ref x0]) (h' := h) rfl ?_
        obtain ⟨y8, qy8, hf⟩ := gi_bind hf
        refine gi_EvF rfl (gi_fR_inv qy8) ?_
        refine gi_EvN 5 (pc' := 80) (lv' := [some (.ref x0), some (.int x1), some (.int x2), some (.int x3)]) (st' := [.int ((3 * x3) + 1), .ref y8, .int y7, .int x1, .ref x0]) (h' := h) rfl ?_
        obtain ⟨y9, qy9, hf⟩ := gi_bind hf
        refine gi_EvAi rfl qy9 ?_
        by_cases c11 : gi_is h x0 6 = true
        rotate_left
        · rw [if_neg c11] at hf; cases hf
        rw [if_pos c11] at hf
        obtain ⟨y10, qy10, hf⟩ := gi_bind hf
        refine gi_EvCV rfl rfl c11 rfl rfl (e_X6_gainsIn h _ _ _ _ _ qy10) ?_
        show gi_Ev M_X6_isWorld 84 [some (.ref x0), some (.int x1), some (.int x2), some (.int x3)] [.int y10] h _
        refine gi_EvN 1 (pc' := 85) (lv' := [some (.ref x0), some (.int x1), some (.int x2), some (.int x3)]) (st' := [.ref x0, .int y10]) (h' := h) rfl ?_
        obtain ⟨y12, qy12, hf⟩ := gi_bind hf
        refine gi_EvF rfl (gi_fR_inv qy12) ?_
        refine gi_EvN 5 (pc' := 93) (lv' := [some (.ref x0), some (.int x1), some (.int x2), some (.int x3)]) (st' := [.int ((3 * x3) + 2), .ref y12, .int y10]) (h' := h) rfl ?_
        obtain ⟨y13, qy13, hf⟩ := gi_bind hf
        refine gi_EvAi rfl qy13 ?_
        refine gi_Ev_ine rfl (fun c14 => ?_) (fun c14 => ?_)
        · rw [if_pos c14] at hf
          refine gi_EvN 5 (pc' := 49) (lv' := [some (.ref x0), some (.int x1), some (.int 1), some (.int (x3 + 1))]) (st' := []) (h' := h) rfl ?_
          exact ih   _  _  _  _ _ hf
        · rw [if_neg c14] at hf
          refine gi_EvN 4 (pc' := 49) (lv' := [some (.ref x0), some (.int x1), some (.int 0), some (.int (x3 + 1))]) (st' := []) (h' := h) rfl ?_
          exact ih   _  _  _  _ _ hf
def f_X6_isWorld (h : gi_H) (x0 : Nat) (x1 : Int32) : Option Int32 :=
  if x1 = 48 then f_X6_isWorld_49 h gi_F x0 x1 1 0
  else (gi_fR h x0 6 0).bind fun y2 => (gi_ai h y2 0 14).bind fun y3 => (f_X6_has y3 (x1 / 4)).bind fun y4 => if y4 = 0 then f_X6_isWorld_49 h gi_F x0 x1 0 0
  else (gi_fR h x0 6 0).bind fun y6 => (gi_ai h y6 0 (15 + (4 * (x1 / 4)))).bind fun y7 => if y7 = (x1 - x1 / 4 * 4) then f_X6_isWorld_49 h gi_F x0 x1 0 0
  else f_X6_isWorld_49 h gi_F x0 x1 1 0
set_option maxRecDepth 20000 in
set_option maxHeartbeats 2000000 in
theorem e_X6_isWorld (h : gi_H) (x0 : Nat) (x1 : Int32) (r : Int32) (hf : f_X6_isWorld h x0 x1 = some r) : gi_Ev M_X6_isWorld 0 [some (.ref x0), some (.int x1), none, none] [] h (some (.int r), h) := by
  unfold f_X6_isWorld at hf
  refine gi_EvN 2 (pc' := 3) (lv' := [some (.ref x0), some (.int x1), none, none]) (st' := [.int 48, .int x1]) (h' := h) rfl ?_
  refine gi_Ev_ieq rfl (fun c1 => ?_) (fun c1 => ?_)
  · rw [if_pos c1] at hf
    refine gi_EvN 5 (pc' := 49) (lv' := [some (.ref x0), some (.int x1), some (.int 1), some (.int 0)]) (st' := []) (h' := h) rfl ?_
    exact e_X6_isWorld_49 h gi_F _ _ _ _ _ hf
  · rw [if_neg c1] at hf
    refine gi_EvN 1 (pc' := 7) (lv' := [some (.ref x0), some (.int x1), none, none]) (st' := [.ref x0]) (h' := h) rfl ?_
    obtain ⟨y2, qy2, hf⟩ := gi_bind hf
    refine gi_EvF rfl (gi_fR_inv qy2) ?_
    refine gi_EvN 1 (pc' := 12) (lv' := [some (.ref x0), some (.int x1), none, none]) (st' := [.int 14, .ref y2]) (h' := h) rfl ?_
    obtain ⟨y3, qy3, hf⟩ := gi_bind hf
    refine gi_EvAi rfl qy3 ?_
    refine gi_EvN 2 (pc' := 15) (lv' := [some (.ref x0), some (.int x1), none, none]) (st' := [.int 4, .int x1, .int y3]) (h' := h) rfl ?_
    refine gi_EvDi rfl (by decide) ?_
    obtain ⟨y4, qy4, hf⟩ := gi_bind hf
    refine gi_EvCS rfl rfl rfl rfl rfl (e_X6_has h _ _ _ qy4) ?_
    show gi_Ev M_X6_isWorld 19 [some (.ref x0), some (.int x1), none, none] [.int y4] h _
    refine gi_Ev_eq rfl (fun c5 => ?_) (fun c5 => ?_)
    · rw [if_pos c5] at hf
      refine gi_EvN 4 (pc' := 49) (lv' := [some (.ref x0), some (.int x1), some (.int 0), some (.int 0)]) (st' := []) (h' := h) rfl ?_
      exact e_X6_isWorld_49 h gi_F _ _ _ _ _ hf
    · rw [if_neg c5] at hf
      refine gi_EvN 1 (pc' := 23) (lv' := [some (.ref x0), some (.int x1), none, none]) (st' := [.ref x0]) (h' := h) rfl ?_
      obtain ⟨y6, qy6, hf⟩ := gi_bind hf
      refine gi_EvF rfl (gi_fR_inv qy6) ?_
      refine gi_EvN 4 (pc' := 31) (lv' := [some (.ref x0), some (.int x1), none, none]) (st' := [.int 4, .int x1, .int 4, .int 15, .ref y6]) (h' := h) rfl ?_
      refine gi_EvDi rfl (by decide) ?_
      refine gi_EvN 2 (pc' := 34) (lv' := [some (.ref x0), some (.int x1), none, none]) (st' := [.int (15 + (4 * (x1 / 4))), .ref y6]) (h' := h) rfl ?_
      obtain ⟨y7, qy7, hf⟩ := gi_bind hf
      refine gi_EvAi rfl qy7 ?_
      refine gi_EvN 2 (pc' := 37) (lv' := [some (.ref x0), some (.int x1), none, none]) (st' := [.int 4, .int x1, .int y7]) (h' := h) rfl ?_
      refine gi_EvRi rfl (by decide) ?_
      refine gi_Ev_ieq rfl (fun c8 => ?_) (fun c8 => ?_)
      · rw [if_pos c8] at hf
        refine gi_EvN 4 (pc' := 49) (lv' := [some (.ref x0), some (.int x1), some (.int 0), some (.int 0)]) (st' := []) (h' := h) rfl ?_
        exact e_X6_isWorld_49 h gi_F _ _ _ _ _ hf
      · rw [if_neg c8] at hf
        refine gi_EvN 5 (pc' := 49) (lv' := [some (.ref x0), some (.int x1), some (.int 1), some (.int 0)]) (st' := []) (h' := h) rfl ?_
        exact e_X6_isWorld_49 h gi_F _ _ _ _ _ hf
/-! X6_liars AdmiralGuineaModel.liars(I)I -/
def f_X6_liars_56 (h : gi_H) (k_19 : Nat → Int32 → Int32 → Int32 → Int32 → Option Int32) (x0 : Nat) (x1 : Int32) (x2 : Int32) (x4 : Int32) (t0 : Int32) (t1 : Int32) : Option Int32 :=
  k_19 x0 x1 x2 (t0 ||| t1) (x4 + 1)
set_option maxRecDepth 20000 in
set_option maxHeartbeats 2000000 in
theorem e_X6_liars_56 (h : gi_H) (k_19 : Nat → Int32 → Int32 → Int32 → Int32 → Option Int32) (hk_19 : ∀ (x0 : Nat) (x1 : Int32) (x2 : Int32) (x3 : Int32) (x4 : Int32) (r : Int32), k_19 x0 x1 x2 x3 x4 = some r → gi_Ev M_X6_liars 19 [some (.ref x0), some (.int x1), some (.int x2), some (.int x3), some (.int x4)] [] h (some (.int r), h)) (g3 : Option Value) (x0 : Nat) (x1 : Int32) (x2 : Int32) (x4 : Int32) (t0 : Int32) (t1 : Int32) (r : Int32) (hf : f_X6_liars_56 h k_19 x0 x1 x2 x4 t0 t1 = some r) : gi_Ev M_X6_liars 56 [some (.ref x0), some (.int x1), some (.int x2), g3, some (.int x4)] [.int t1, .int t0] h (some (.int r), h) := by
  unfold f_X6_liars_56 at hf
  refine gi_EvN 4 (pc' := 19) (lv' := [some (.ref x0), some (.int x1), some (.int x2), some (.int (t0 ||| t1)), some (.int (x4 + 1))]) (st' := []) (h' := h) rfl ?_
  exact hk_19   _  _  _  _  _ _ hf
def f_X6_liars_64 (h : gi_H) (x0 : Nat) (x1 : Int32) (x2 : Int32) (x3 : Int32) : Option Int32 :=
  if x1 = 0 then some (x2)
  else if x1 = 1 then some (x3)
  else if gi_is h x0 6 = true then (f_X6_isWorld h x0 48).bind fun y3 => if y3 = 0 then some (0)
  else some (1) else none
set_option maxRecDepth 20000 in
set_option maxHeartbeats 2000000 in
theorem e_X6_liars_64 (h : gi_H) (g4 : Option Value) (x0 : Nat) (x1 : Int32) (x2 : Int32) (x3 : Int32) (r : Int32) (hf : f_X6_liars_64 h x0 x1 x2 x3 = some r) : gi_Ev M_X6_liars 64 [some (.ref x0), some (.int x1), some (.int x2), some (.int x3), g4] [] h (some (.int r), h) := by
  unfold f_X6_liars_64 at hf
  refine gi_EvN 1 (pc' := 65) (lv' := [some (.ref x0), some (.int x1), some (.int x2), some (.int x3), g4]) (st' := [.int x1]) (h' := h) rfl ?_
  refine gi_Ev_ne rfl (fun c1 => ?_) (fun c1 => ?_)
  · rw [if_pos c1] at hf
    refine gi_EvN 2 (pc' := 95) (lv' := [some (.ref x0), some (.int x1), some (.int x2), some (.int x3), g4]) (st' := [.int x2]) (h' := h) rfl ?_
    cases hf
    exact gi_EvR rfl rfl
  · rw [if_neg c1] at hf
    refine gi_EvN 2 (pc' := 74) (lv' := [some (.ref x0), some (.int x1), some (.int x2), some (.int x3), g4]) (st' := [.int 1, .int x1]) (h' := h) rfl ?_
    refine gi_Ev_ine rfl (fun c2 => ?_) (fun c2 => ?_)
    · rw [if_pos c2] at hf
      refine gi_EvN 2 (pc' := 95) (lv' := [some (.ref x0), some (.int x1), some (.int x2), some (.int x3), g4]) (st' := [.int x3]) (h' := h) rfl ?_
      cases hf
      exact gi_EvR rfl rfl
    · rw [if_neg c2] at hf
      refine gi_EvN 2 (pc' := 84) (lv' := [some (.ref x0), some (.int x1), some (.int x2), some (.int x3), g4]) (st' := [.int 48, .ref x0]) (h' := h) rfl ?_
      by_cases c4 : gi_is h x0 6 = true
      rotate_left
      · rw [if_neg c4] at hf; cases hf
      rw [if_pos c4] at hf
      obtain ⟨y3, qy3, hf⟩ := gi_bind hf
      refine gi_EvCV rfl rfl c4 rfl rfl (e_X6_isWorld h _ _ _ qy3) ?_
      show gi_Ev M_X6_liars 87 [some (.ref x0), some (.int x1), some (.int x2), some (.int x3), g4] [.int y3] h _
      refine gi_Ev_eq rfl (fun c5 => ?_) (fun c5 => ?_)
      · rw [if_pos c5] at hf
        refine gi_EvN 1 (pc' := 95) (lv' := [some (.ref x0), some (.int x1), some (.int x2), some (.int x3), g4]) (st' := [.int 0]) (h' := h) rfl ?_
        cases hf
        exact gi_EvR rfl rfl
      · rw [if_neg c5] at hf
        refine gi_EvN 2 (pc' := 95) (lv' := [some (.ref x0), some (.int x1), some (.int x2), some (.int x3), g4]) (st' := [.int 1]) (h' := h) rfl ?_
        cases hf
        exact gi_EvR rfl rfl
def f_X6_liars_19 (h : gi_H) : Nat → Nat → Int32 → Int32 → Int32 → Int32 → Option Int32
  | 0, _, _, _, _, _ => none
  | n + 1, x0, x1, x2, x3, x4 => if 49 ≤ x4 then f_X6_liars_64 h x0 x1 x2 x3
  else if gi_is h x0 6 = true then (f_X6_isWorld h x0 x4).bind fun y2 => if y2 = 0 then f_X6_liars_19 h n x0 x1 x2 x3 (x4 + 1)
  else if 48 ≤ x4 then f_X6_liars_56 h (f_X6_liars_19 h n) x0 x1 (x2 + 1) x4 x3 0
  else f_X6_liars_56 h (f_X6_liars_19 h n) x0 x1 (x2 + 1) x4 x3 (1 <<< ((x4 / 4) &&& 31)) else none
set_option maxRecDepth 20000 in
set_option maxHeartbeats 2000000 in
theorem e_X6_liars_19 (h : gi_H) : ∀ (n : Nat) (x0 : Nat) (x1 : Int32) (x2 : Int32) (x3 : Int32) (x4 : Int32) (r : Int32), f_X6_liars_19 h n x0 x1 x2 x3 x4 = some r → gi_Ev M_X6_liars 19 [some (.ref x0), some (.int x1), some (.int x2), some (.int x3), some (.int x4)] [] h (some (.int r), h) := by
  intro n
  induction n with
  | zero =>
    intro x0 x1 x2 x3 x4 r hf
    unfold f_X6_liars_19 at hf
    cases hf
  | succ n ih =>
    intro x0 x1 x2 x3 x4 r hf
    unfold f_X6_liars_19 at hf
    refine gi_EvN 2 (pc' := 23) (lv' := [some (.ref x0), some (.int x1), some (.int x2), some (.int x3), some (.int x4)]) (st' := [.int 49, .int x4]) (h' := h) rfl ?_
    refine gi_Ev_ige rfl (fun c1 => ?_) (fun c1 => ?_)
    · rw [if_pos c1] at hf
      exact e_X6_liars_64 h _ _ _ _ _ _ hf
    · rw [if_neg c1] at hf
      refine gi_EvN 2 (pc' := 29) (lv' := [some (.ref x0), some (.int x1), some (.int x2), some (.int x3), some (.int x4)]) (st' := [.int x4, .ref x0]) (h' := h) rfl ?_
      by_cases c3 : gi_is h x0 6 = true
      rotate_left
      · rw [if_neg c3] at hf; cases hf
      rw [if_pos c3] at hf
      obtain ⟨y2, qy2, hf⟩ := gi_bind hf
      refine gi_EvCV rfl rfl c3 rfl rfl (e_X6_isWorld h _ _ _ qy2) ?_
      show gi_Ev M_X6_liars 32 [some (.ref x0), some (.int x1), some (.int x2), some (.int x3), some (.int x4)] [.int y2] h _
      refine gi_Ev_eq rfl (fun c4 => ?_) (fun c4 => ?_)
      · rw [if_pos c4] at hf
        refine gi_EvN 2 (pc' := 19) (lv' := [some (.ref x0), some (.int x1), some (.int x2), some (.int x3), some (.int (x4 + 1))]) (st' := []) (h' := h) rfl ?_
        exact ih   _  _  _  _  _ _ hf
      · rw [if_neg c4] at hf
        refine gi_EvN 4 (pc' := 43) (lv' := [some (.ref x0), some (.int x1), some (.int (x2 + 1)), some (.int x3), some (.int x4)]) (st' := [.int 48, .int x4, .int x3]) (h' := h) rfl ?_
        refine gi_Ev_ige rfl (fun c5 => ?_) (fun c5 => ?_)
        · rw [if_pos c5] at hf
          refine gi_EvN 1 (pc' := 56) (lv' := [some (.ref x0), some (.int x1), some (.int (x2 + 1)), some (.int x3), some (.int x4)]) (st' := [.int 0, .int x3]) (h' := h) rfl ?_
          exact e_X6_liars_56 h _ ih _ _ _ _ _ _ _ _ hf
        · rw [if_neg c5] at hf
          refine gi_EvN 3 (pc' := 50) (lv' := [some (.ref x0), some (.int x1), some (.int (x2 + 1)), some (.int x3), some (.int x4)]) (st' := [.int 4, .int x4, .int 1, .int x3]) (h' := h) rfl ?_
          refine gi_EvDi rfl (by decide) ?_
          refine gi_EvN 2 (pc' := 56) (lv' := [some (.ref x0), some (.int x1), some (.int (x2 + 1)), some (.int x3), some (.int x4)]) (st' := [.int (1 <<< ((x4 / 4) &&& 31)), .int x3]) (h' := h) rfl ?_
          exact e_X6_liars_56 h _ ih _ _ _ _ _ _ _ _ hf
def f_X6_liars (h : gi_H) (x0 : Nat) (x1 : Int32) : Option Int32 :=
  (f_X6_in x1 0 2).bind fun y1 => if y1 = 0 then some ((-2))
  else f_X6_liars_19 h gi_F x0 x1 0 0 0
set_option maxRecDepth 20000 in
set_option maxHeartbeats 2000000 in
theorem e_X6_liars (h : gi_H) (x0 : Nat) (x1 : Int32) (r : Int32) (hf : f_X6_liars h x0 x1 = some r) : gi_Ev M_X6_liars 0 [some (.ref x0), some (.int x1), none, none, none] [] h (some (.int r), h) := by
  unfold f_X6_liars at hf
  refine gi_EvN 3 (pc' := 3) (lv' := [some (.ref x0), some (.int x1), none, none, none]) (st' := [.int 2, .int 0, .int x1]) (h' := h) rfl ?_
  obtain ⟨y1, qy1, hf⟩ := gi_bind hf
  refine gi_EvCS rfl rfl rfl rfl rfl (e_X6_in h _ _ _ _ qy1) ?_
  show gi_Ev M_X6_liars 6 [some (.ref x0), some (.int x1), none, none, none] [.int y1] h _
  refine gi_Ev_ne rfl (fun c2 => ?_) (fun c2 => ?_)
  · rw [if_pos c2] at hf
    refine gi_EvN 1 (pc' := 11) (lv' := [some (.ref x0), some (.int x1), none, none, none]) (st' := [.int (-2)]) (h' := h) rfl ?_
    cases hf
    exact gi_EvR rfl rfl
  · rw [if_neg c2] at hf
    refine gi_EvN 6 (pc' := 19) (lv' := [some (.ref x0), some (.int x1), some (.int 0), some (.int 0), some (.int 0)]) (st' := []) (h' := h) rfl ?_
    exact e_X6_liars_19 h gi_F _ _ _ _ _ _ hf
