/-! X6_passes AdmiralGuineaModel.passes(III)I -/
def f_X6_passes_54 (h : gi_H) (x0 : Nat) (x1 : Int32) (x2 : Int32) (x3 : Int32) (t0 : Int32) : Option (Int32 × gi_H) :=
  if t0 = 0 then (gi_fR h x0 6 1).bind fun y2 => (gi_pi h y2 0 (15 + (4 * x2)) x3).bind fun h3 => (gi_fR h3 x0 6 1).bind fun y4 => (gi_ai h3 y4 0 (6 + x3)).bind fun y5 => (gi_pi h3 y4 0 (6 + x3) (y5 - 1)).bind fun h6 => if gi_is h6 x0 6 = true then (f_X6_gets h6 x0 x1 1).bind fun h7 => some (t0, h7) else none
  else some (t0, h)
set_option maxRecDepth 20000 in
set_option maxHeartbeats 2000000 in
theorem e_X6_passes_54 (g4 : Option Value) (h : gi_H) (x0 : Nat) (x1 : Int32) (x2 : Int32) (x3 : Int32) (t0 : Int32) (r : (Int32 × gi_H)) (hf : f_X6_passes_54 h x0 x1 x2 x3 t0 = some r) : gi_Ev M_X6_passes 54 [some (.ref x0), some (.int x1), some (.int x2), some (.int x3), g4] [.int t0] h (some (.int r.1), r.2) := by
  unfold f_X6_passes_54 at hf
  refine gi_EvN 2 (pc' := 58) (lv' := [some (.ref x0), some (.int x1), some (.int x2), some (.int x3), some (.int t0)]) (st' := [.int t0]) (h' := h) rfl ?_
  refine gi_Ev_ne rfl (fun c1 => ?_) (fun c1 => ?_)
  · rw [if_pos c1] at hf
    refine gi_EvN 1 (pc' := 62) (lv' := [some (.ref x0), some (.int x1), some (.int x2), some (.int x3), some (.int t0)]) (st' := [.ref x0]) (h' := h) rfl ?_
    obtain ⟨y2, qy2, hf⟩ := gi_bind hf
    refine gi_EvF rfl (gi_fR_inv qy2) ?_
    refine gi_EvN 6 (pc' := 72) (lv' := [some (.ref x0), some (.int x1), some (.int x2), some (.int x3), some (.int t0)]) (st' := [.int x3, .int (15 + (4 * x2)), .ref y2]) (h' := h) rfl ?_
    obtain ⟨h3, qh3, hf⟩ := gi_bind hf
    refine gi_EvPi rfl qh3 ?_
    refine gi_EvN 1 (pc' := 74) (lv' := [some (.ref x0), some (.int x1), some (.int x2), some (.int x3), some (.int t0)]) (st' := [.ref x0]) (h' := h3) rfl ?_
    obtain ⟨y4, qy4, hf⟩ := gi_bind hf
    refine gi_EvF rfl (gi_fR_inv qy4) ?_
    refine gi_EvN 4 (pc' := 82) (lv' := [some (.ref x0), some (.int x1), some (.int x2), some (.int x3), some (.int t0)]) (st' := [.int (6 + x3), .ref y4, .int (6 + x3), .ref y4]) (h' := h3) rfl ?_
    obtain ⟨y5, qy5, hf⟩ := gi_bind hf
    refine gi_EvAi rfl qy5 ?_
    refine gi_EvN 2 (pc' := 85) (lv' := [some (.ref x0), some (.int x1), some (.int x2), some (.int x3), some (.int t0)]) (st' := [.int (y5 - 1), .int (6 + x3), .ref y4]) (h' := h3) rfl ?_
    obtain ⟨h6, qh6, hf⟩ := gi_bind hf
    refine gi_EvPi rfl qh6 ?_
    refine gi_EvN 3 (pc' := 89) (lv' := [some (.ref x0), some (.int x1), some (.int x2), some (.int x3), some (.int t0)]) (st' := [.int 1, .int x1, .ref x0]) (h' := h6) rfl ?_
    by_cases c8 : gi_is h6 x0 6 = true
    rotate_left
    · rw [if_neg c8] at hf; cases hf
    rw [if_pos c8] at hf
    obtain ⟨h7, qh7, hf⟩ := gi_bind hf
    refine gi_EvCV rfl rfl c8 rfl rfl (e_X6_gets h6 _ _ _ _ qh7) ?_
    show gi_Ev M_X6_passes 92 [some (.ref x0), some (.int x1), some (.int x2), some (.int x3), some (.int t0)] [] h7 _
    refine gi_EvN 1 (pc' := 94) (lv' := [some (.ref x0), some (.int x1), some (.int x2), some (.int x3), some (.int t0)]) (st' := [.int t0]) (h' := h7) rfl ?_
    cases hf
    exact gi_EvR rfl rfl
  · rw [if_neg c1] at hf
    refine gi_EvN 1 (pc' := 94) (lv' := [some (.ref x0), some (.int x1), some (.int x2), some (.int x3), some (.int t0)]) (st' := [.int t0]) (h' := h) rfl ?_
    cases hf
    exact gi_EvR rfl rfl
def f_X6_passes_40 (h : gi_H) (x0 : Nat) (x1 : Int32) (x2 : Int32) (x3 : Int32) : Option (Int32 × gi_H) :=
  f_X6_passes_54 h x0 x1 x2 x3 4
set_option maxRecDepth 20000 in
set_option maxHeartbeats 2000000 in
theorem e_X6_passes_40 (g4 : Option Value) (h : gi_H) (x0 : Nat) (x1 : Int32) (x2 : Int32) (x3 : Int32) (r : (Int32 × gi_H)) (hf : f_X6_passes_40 h x0 x1 x2 x3 = some r) : gi_Ev M_X6_passes 40 [some (.ref x0), some (.int x1), some (.int x2), some (.int x3), g4] [] h (some (.int r.1), r.2) := by
  unfold f_X6_passes_40 at hf
  refine gi_EvN 2 (pc' := 54) (lv' := [some (.ref x0), some (.int x1), some (.int x2), some (.int x3), g4]) (st' := [.int 4]) (h' := h) rfl ?_
  exact e_X6_passes_54 _ h _ _ _ _ _ _ hf
def f_X6_passes (h : gi_H) (x0 : Nat) (x1 : Int32) (x2 : Int32) (x3 : Int32) : Option (Int32 × gi_H) :=
  (gi_fR h x0 6 1).bind fun y1 => (gi_ai h y1 0 (6 + x3)).bind fun y2 => if 1 ≤ y2 then (gi_fR h x0 6 1).bind fun y4 => (gi_ai h y4 0 14).bind fun y5 => (f_X6_has y5 x2).bind fun y6 => if y6 = 0 then f_X6_passes_40 h x0 x1 x2 x3
  else if gi_is h x0 6 = true then (f_X6_holder h x0 x2).bind fun y8 => if y8 = x1 then if x1 = x3 then f_X6_passes_54 h x0 x1 x2 x3 5
  else f_X6_passes_54 h x0 x1 x2 x3 0
  else f_X6_passes_40 h x0 x1 x2 x3 else none
  else f_X6_passes_54 h x0 x1 x2 x3 3
set_option maxRecDepth 20000 in
set_option maxHeartbeats 2000000 in
theorem e_X6_passes (h : gi_H) (x0 : Nat) (x1 : Int32) (x2 : Int32) (x3 : Int32) (r : (Int32 × gi_H)) (hf : f_X6_passes h x0 x1 x2 x3 = some r) : gi_Ev M_X6_passes 0 [some (.ref x0), some (.int x1), some (.int x2), some (.int x3), none] [] h (some (.int r.1), r.2) := by
  unfold f_X6_passes at hf
  refine gi_EvN 1 (pc' := 1) (lv' := [some (.ref x0), some (.int x1), some (.int x2), some (.int x3), none]) (st' := [.ref x0]) (h' := h) rfl ?_
  obtain ⟨y1, qy1, hf⟩ := gi_bind hf
  refine gi_EvF rfl (gi_fR_inv qy1) ?_
  refine gi_EvN 3 (pc' := 8) (lv' := [some (.ref x0), some (.int x1), some (.int x2), some (.int x3), none]) (st' := [.int (6 + x3), .ref y1]) (h' := h) rfl ?_
  obtain ⟨y2, qy2, hf⟩ := gi_bind hf
  refine gi_EvAi rfl qy2 ?_
  refine gi_EvN 1 (pc' := 10) (lv' := [some (.ref x0), some (.int x1), some (.int x2), some (.int x3), none]) (st' := [.int 1, .int y2]) (h' := h) rfl ?_
  refine gi_Ev_ige rfl (fun c3 => ?_) (fun c3 => ?_)
  · rw [if_pos c3] at hf
    refine gi_EvN 1 (pc' := 18) (lv' := [some (.ref x0), some (.int x1), some (.int x2), some (.int x3), none]) (st' := [.ref x0]) (h' := h) rfl ?_
    obtain ⟨y4, qy4, hf⟩ := gi_bind hf
    refine gi_EvF rfl (gi_fR_inv qy4) ?_
    refine gi_EvN 1 (pc' := 23) (lv' := [some (.ref x0), some (.int x1), some (.int x2), some (.int x3), none]) (st' := [.int 14, .ref y4]) (h' := h) rfl ?_
    obtain ⟨y5, qy5, hf⟩ := gi_bind hf
    refine gi_EvAi rfl qy5 ?_
    refine gi_EvN 1 (pc' := 25) (lv' := [some (.ref x0), some (.int x1), some (.int x2), some (.int x3), none]) (st' := [.int x2, .int y5]) (h' := h) rfl ?_
    obtain ⟨y6, qy6, hf⟩ := gi_bind hf
    refine gi_EvCS rfl rfl rfl rfl rfl (e_X6_has h _ _ _ qy6) ?_
    show gi_Ev M_X6_passes 28 [some (.ref x0), some (.int x1), some (.int x2), some (.int x3), none] [.int y6] h _
    refine gi_Ev_eq rfl (fun c7 => ?_) (fun c7 => ?_)
    · rw [if_pos c7] at hf
      exact e_X6_passes_40 _ h _ _ _ _ _ hf
    · rw [if_neg c7] at hf
      refine gi_EvN 2 (pc' := 33) (lv' := [some (.ref x0), some (.int x1), some (.int x2), some (.int x3), none]) (st' := [.int x2, .ref x0]) (h' := h) rfl ?_
      by_cases c9 : gi_is h x0 6 = true
      rotate_left
      · rw [if_neg c9] at hf; cases hf
      rw [if_pos c9] at hf
      obtain ⟨y8, qy8, hf⟩ := gi_bind hf
      refine gi_EvCV rfl rfl c9 rfl rfl (e_X6_holder h _ _ _ qy8) ?_
      show gi_Ev M_X6_passes 36 [some (.ref x0), some (.int x1), some (.int x2), some (.int x3), none] [.int y8] h _
      refine gi_EvN 1 (pc' := 37) (lv' := [some (.ref x0), some (.int x1), some (.int x2), some (.int x3), none]) (st' := [.int x1, .int y8]) (h' := h) rfl ?_
      refine gi_Ev_ieq rfl (fun c10 => ?_) (fun c10 => ?_)
      · rw [if_pos c10] at hf
        refine gi_EvN 2 (pc' := 46) (lv' := [some (.ref x0), some (.int x1), some (.int x2), some (.int x3), none]) (st' := [.int x3, .int x1]) (h' := h) rfl ?_
        refine gi_Ev_ine rfl (fun c11 => ?_) (fun c11 => ?_)
        · rw [if_pos c11] at hf
          refine gi_EvN 2 (pc' := 54) (lv' := [some (.ref x0), some (.int x1), some (.int x2), some (.int x3), none]) (st' := [.int 5]) (h' := h) rfl ?_
          exact e_X6_passes_54 _ h _ _ _ _ _ _ hf
        · rw [if_neg c11] at hf
          refine gi_EvN 1 (pc' := 54) (lv' := [some (.ref x0), some (.int x1), some (.int x2), some (.int x3), none]) (st' := [.int 0]) (h' := h) rfl ?_
          exact e_X6_passes_54 _ h _ _ _ _ _ _ hf
      · rw [if_neg c10] at hf
        exact e_X6_passes_40 _ h _ _ _ _ _ hf
  · rw [if_neg c3] at hf
    refine gi_EvN 2 (pc' := 54) (lv' := [some (.ref x0), some (.int x1), some (.int x2), some (.int x3), none]) (st' := [.int 3]) (h' := h) rfl ?_
    exact e_X6_passes_54 _ h _ _ _ _ _ _ hf
/-! X6_end AdmiralGuineaModel.end(I)V -/
def f_X6_end_97 (k_15 : gi_H → Nat → Int32 → Int32 → Option gi_H) (h : gi_H) (x0 : Nat) (x1 : Int32) (x2 : Int32) (x3 : Int32) (t0 : Nat) (t1 : Int32) : Option gi_H :=
  if t1 = 0 ∨ t1 = 1 then (gi_fp h t0 6 7 (.int t1)).bind fun h1 => (gi_fR h1 x0 6 1).bind fun y3 => (gi_ai h1 y3 0 10).bind fun y4 => (gi_pi h1 y3 0 10 (y4 - x3)).bind fun h5 => (gi_fI h5 x0 6 6).bind fun y6 => (gi_fp h5 x0 6 6 (.int (y6 + x3))).bind fun h7 => if gi_is h7 x0 6 = true then (f_X6_holder h7 x0 x2).bind fun y8 => if gi_is h7 x0 6 = true then (f_X6_gets h7 x0 y8 x3).bind fun h10 => if gi_is h10 x0 6 = true then (f_X6_gone h10 x0 x2).bind fun h12 => k_15 h12 x0 x1 (x2 + 1) else none else none else none else none
set_option maxRecDepth 20000 in
set_option maxHeartbeats 2000000 in
theorem e_X6_end_97 (k_15 : gi_H → Nat → Int32 → Int32 → Option gi_H) (hk_15 : ∀ (g3 : Option Value) (h : gi_H) (x0 : Nat) (x1 : Int32) (x2 : Int32) (r : gi_H), k_15 h x0 x1 x2 = some r → gi_Ev M_X6_end 15 [some (.ref x0), some (.int x1), some (.int x2), g3] [] h (none, r)) (h : gi_H) (x0 : Nat) (x1 : Int32) (x2 : Int32) (x3 : Int32) (t0 : Nat) (t1 : Int32) (r : gi_H) (hf : f_X6_end_97 k_15 h x0 x1 x2 x3 t0 t1 = some r) : gi_Ev M_X6_end 97 [some (.ref x0), some (.int x1), some (.int x2), some (.int x3)] [.int t1, .ref t0] h (none, r) := by
  unfold f_X6_end_97 at hf
  by_cases c2 : t1 = 0 ∨ t1 = 1
  rotate_left
  · rw [if_neg c2] at hf; cases hf
  rw [if_pos c2] at hf
  obtain ⟨h1, qh1, hf⟩ := gi_bind hf
  refine gi_EvFp rfl (decide_eq_true c2) qh1 ?_
  refine gi_EvN 1 (pc' := 101) (lv' := [some (.ref x0), some (.int x1), some (.int x2), some (.int x3)]) (st' := [.ref x0]) (h' := h1) rfl ?_
  obtain ⟨y3, qy3, hf⟩ := gi_bind hf
  refine gi_EvF rfl (gi_fR_inv qy3) ?_
  refine gi_EvN 2 (pc' := 107) (lv' := [some (.ref x0), some (.int x1), some (.int x2), some (.int x3)]) (st' := [.int 10, .ref y3, .int 10, .ref y3]) (h' := h1) rfl ?_
  obtain ⟨y4, qy4, hf⟩ := gi_bind hf
  refine gi_EvAi rfl qy4 ?_
  refine gi_EvN 2 (pc' := 110) (lv' := [some (.ref x0), some (.int x1), some (.int x2), some (.int x3)]) (st' := [.int (y4 - x3), .int 10, .ref y3]) (h' := h1) rfl ?_
  obtain ⟨h5, qh5, hf⟩ := gi_bind hf
  refine gi_EvPi rfl qh5 ?_
  refine gi_EvN 2 (pc' := 113) (lv' := [some (.ref x0), some (.int x1), some (.int x2), some (.int x3)]) (st' := [.ref x0, .ref x0]) (h' := h5) rfl ?_
  obtain ⟨y6, qy6, hf⟩ := gi_bind hf
  refine gi_EvF rfl (gi_fI_inv qy6) ?_
  refine gi_EvN 2 (pc' := 118) (lv' := [some (.ref x0), some (.int x1), some (.int x2), some (.int x3)]) (st' := [.int (y6 + x3), .ref x0]) (h' := h5) rfl ?_
  obtain ⟨h7, qh7, hf⟩ := gi_bind hf
  refine gi_EvFp rfl rfl qh7 ?_
  refine gi_EvN 3 (pc' := 124) (lv' := [some (.ref x0), some (.int x1), some (.int x2), some (.int x3)]) (st' := [.int x2, .ref x0, .ref x0]) (h' := h7) rfl ?_
  by_cases c9 : gi_is h7 x0 6 = true
  rotate_left
  · rw [if_neg c9] at hf; cases hf
  rw [if_pos c9] at hf
  obtain ⟨y8, qy8, hf⟩ := gi_bind hf
  refine gi_EvCV rfl rfl c9 rfl rfl (e_X6_holder h7 _ _ _ qy8) ?_
  show gi_Ev M_X6_end 127 [some (.ref x0), some (.int x1), some (.int x2), some (.int x3)] [.int y8, .ref x0] h7 _
  refine gi_EvN 1 (pc' := 128) (lv' := [some (.ref x0), some (.int x1), some (.int x2), some (.int x3)]) (st' := [.int x3, .int y8, .ref x0]) (h' := h7) rfl ?_
  by_cases c11 : gi_is h7 x0 6 = true
  rotate_left
  · rw [if_neg c11] at hf; cases hf
  rw [if_pos c11] at hf
  obtain ⟨h10, qh10, hf⟩ := gi_bind hf
  refine gi_EvCV rfl rfl c11 rfl rfl (e_X6_gets h7 _ _ _ _ qh10) ?_
  show gi_Ev M_X6_end 131 [some (.ref x0), some (.int x1), some (.int x2), some (.int x3)] [] h10 _
  refine gi_EvN 2 (pc' := 133) (lv' := [some (.ref x0), some (.int x1), some (.int x2), some (.int x3)]) (st' := [.int x2, .ref x0]) (h' := h10) rfl ?_
  by_cases c13 : gi_is h10 x0 6 = true
  rotate_left
  · rw [if_neg c13] at hf; cases hf
  rw [if_pos c13] at hf
  obtain ⟨h12, qh12, hf⟩ := gi_bind hf
  refine gi_EvCV rfl rfl c13 rfl rfl (e_X6_gone h10 _ _ _ qh12) ?_
  show gi_Ev M_X6_end 136 [some (.ref x0), some (.int x1), some (.int x2), some (.int x3)] [] h12 _
  refine gi_EvN 2 (pc' := 15) (lv' := [some (.ref x0), some (.int x1), some (.int (x2 + 1)), some (.int x3)]) (st' := []) (h' := h12) rfl ?_
  exact hk_15 _ _ _  _  _ _ hf
def f_X6_end_92 (k_15 : gi_H → Nat → Int32 → Int32 → Option gi_H) (h : gi_H) (x0 : Nat) (x1 : Int32) (x2 : Int32) (x3 : Int32) (t0 : Nat) : Option gi_H :=
  f_X6_end_97 k_15 h x0 x1 x2 x3 t0 1
set_option maxRecDepth 20000 in
set_option maxHeartbeats 2000000 in
theorem e_X6_end_92 (k_15 : gi_H → Nat → Int32 → Int32 → Option gi_H) (hk_15 : ∀ (g3 : Option Value) (h : gi_H) (x0 : Nat) (x1 : Int32) (x2 : Int32) (r : gi_H), k_15 h x0 x1 x2 = some r → gi_Ev M_X6_end 15 [some (.ref x0), some (.int x1), some (.int x2), g3] [] h (none, r)) (h : gi_H) (x0 : Nat) (x1 : Int32) (x2 : Int32) (x3 : Int32) (t0 : Nat) (r : gi_H) (hf : f_X6_end_92 k_15 h x0 x1 x2 x3 t0 = some r) : gi_Ev M_X6_end 92 [some (.ref x0), some (.int x1), some (.int x2), some (.int x3)] [.ref t0] h (none, r) := by
  unfold f_X6_end_92 at hf
  refine gi_EvN 2 (pc' := 97) (lv' := [some (.ref x0), some (.int x1), some (.int x2), some (.int x3)]) (st' := [.int 1, .ref t0]) (h' := h) rfl ?_
  exact e_X6_end_97 _ hk_15 h _ _ _ _ _ _ _ hf
def f_X6_end_74 (k_15 : gi_H → Nat → Int32 → Int32 → Option gi_H) (h : gi_H) (x0 : Nat) (x1 : Int32) (x2 : Int32) (t0 : Int32) : Option gi_H :=
  (gi_fI h x0 6 7).bind fun y1 => if y1 = 0 then if gi_is h x0 6 = true then (f_X6_sumOf h x0 x2).bind fun y3 => if y3 ≤ t0 then f_X6_end_97 k_15 h x0 x1 x2 t0 x0 0
  else f_X6_end_92 k_15 h x0 x1 x2 t0 x0 else none
  else f_X6_end_92 k_15 h x0 x1 x2 t0 x0
set_option maxRecDepth 20000 in
set_option maxHeartbeats 2000000 in
theorem e_X6_end_74 (k_15 : gi_H → Nat → Int32 → Int32 → Option gi_H) (hk_15 : ∀ (g3 : Option Value) (h : gi_H) (x0 : Nat) (x1 : Int32) (x2 : Int32) (r : gi_H), k_15 h x0 x1 x2 = some r → gi_Ev M_X6_end 15 [some (.ref x0), some (.int x1), some (.int x2), g3] [] h (none, r)) (g3 : Option Value) (h : gi_H) (x0 : Nat) (x1 : Int32) (x2 : Int32) (t0 : Int32) (r : gi_H) (hf : f_X6_end_74 k_15 h x0 x1 x2 t0 = some r) : gi_Ev M_X6_end 74 [some (.ref x0), some (.int x1), some (.int x2), g3] [.int t0] h (none, r) := by
  unfold f_X6_end_74 at hf
  refine gi_EvN 3 (pc' := 77) (lv' := [some (.ref x0), some (.int x1), some (.int x2), some (.int t0)]) (st' := [.ref x0, .ref x0]) (h' := h) rfl ?_
  obtain ⟨y1, qy1, hf⟩ := gi_bind hf
  refine gi_EvF rfl (gi_fI_inv qy1) ?_
  refine gi_Ev_ne rfl (fun c2 => ?_) (fun c2 => ?_)
  · rw [if_pos c2] at hf
    refine gi_EvN 3 (pc' := 86) (lv' := [some (.ref x0), some (.int x1), some (.int x2), some (.int t0)]) (st' := [.int x2, .ref x0, .int t0, .ref x0]) (h' := h) rfl ?_
    by_cases c4 : gi_is h x0 6 = true
    rotate_left
    · rw [if_neg c4] at hf; cases hf
    rw [if_pos c4] at hf
    obtain ⟨y3, qy3, hf⟩ := gi_bind hf
    refine gi_EvCV rfl rfl c4 rfl rfl (e_X6_sumOf h _ _ _ qy3) ?_
    show gi_Ev M_X6_end 89 [some (.ref x0), some (.int x1), some (.int x2), some (.int t0)] [.int y3, .int t0, .ref x0] h _
    refine gi_Ev_ige rfl (fun c5 => ?_) (fun c5 => ?_)
    · rw [if_pos c5] at hf
      refine gi_EvN 1 (pc' := 97) (lv' := [some (.ref x0), some (.int x1), some (.int x2), some (.int t0)]) (st' := [.int 0, .ref x0]) (h' := h) rfl ?_
      exact e_X6_end_97 _ hk_15 h _ _ _ _ _ _ _ hf
    · rw [if_neg c5] at hf
      exact e_X6_end_92 _ hk_15 h _ _ _ _ _ _ hf
  · rw [if_neg c2] at hf
    exact e_X6_end_92 _ hk_15 h _ _ _ _ _ _ hf
def f_X6_end_15 : Nat → gi_H → Nat → Int32 → Int32 → Option gi_H
  | 0, _, _, _, _ => none
  | n + 1, h, x0, x1, x2 => if 12 ≤ x2 then some h
  else (gi_fR h x0 6 1).bind fun y2 => (gi_ai h y2 0 14).bind fun y3 => (f_X6_has y3 x2).bind fun y4 => if y4 = 0 then f_X6_end_15 n h x0 x1 (x2 + 1)
  else if gi_is h x0 6 = true then (f_X6_lifeOf h x0 x2).bind fun y6 => if y6 = x1 then if gi_is h x0 6 = true then (f_X6_sumOf h x0 x2).bind fun y9 => (gi_fR h x0 6 1).bind fun y11 => (gi_ai h y11 0 10).bind fun y12 => if y12 ≤ y9 then (gi_fR h x0 6 1).bind fun y14 => (gi_ai h y14 0 10).bind fun y15 => f_X6_end_74 (f_X6_end_15 n) h x0 x1 x2 y15
  else if gi_is h x0 6 = true then (f_X6_sumOf h x0 x2).bind fun y16 => f_X6_end_74 (f_X6_end_15 n) h x0 x1 x2 y16 else none else none
  else f_X6_end_15 n h x0 x1 (x2 + 1) else none
set_option maxRecDepth 20000 in
set_option maxHeartbeats 2000000 in
theorem e_X6_end_15 : ∀ (n : Nat) (g3 : Option Value) (h : gi_H) (x0 : Nat) (x1 : Int32) (x2 : Int32) (r : gi_H), f_X6_end_15 n h x0 x1 x2 = some r → gi_Ev M_X6_end 15 [some (.ref x0), some (.int x1), some (.int x2), g3] [] h (none, r) := by
  intro n
  induction n with
  | zero =>
    intro g3 h x0 x1 x2 r hf
    unfold f_X6_end_15 at hf
    cases hf
  | succ n ih =>
    intro g3 h x0 x1 x2 r hf
    unfold f_X6_end_15 at hf
    refine gi_EvN 2 (pc' := 18) (lv' := [some (.ref x0), some (.int x1), some (.int x2), g3]) (st' := [.int 12, .int x2]) (h' := h) rfl ?_
    refine gi_Ev_ige rfl (fun c1 => ?_) (fun c1 => ?_)
    · rw [if_pos c1] at hf
      cases hf
      exact gi_EvR rfl rfl
    · rw [if_neg c1] at hf
      refine gi_EvN 1 (pc' := 22) (lv' := [some (.ref x0), some (.int x1), some (.int x2), g3]) (st' := [.ref x0]) (h' := h) rfl ?_
      obtain ⟨y2, qy2, hf⟩ := gi_bind hf
      refine gi_EvF rfl (gi_fR_inv qy2) ?_
      refine gi_EvN 1 (pc' := 27) (lv' := [some (.ref x0), some (.int x1), some (.int x2), g3]) (st' := [.int 14, .ref y2]) (h' := h) rfl ?_
      obtain ⟨y3, qy3, hf⟩ := gi_bind hf
      refine gi_EvAi rfl qy3 ?_
      refine gi_EvN 1 (pc' := 29) (lv' := [some (.ref x0), some (.int x1), some (.int x2), g3]) (st' := [.int x2, .int y3]) (h' := h) rfl ?_
      obtain ⟨y4, qy4, hf⟩ := gi_bind hf
      refine gi_EvCS rfl rfl rfl rfl rfl (e_X6_has h _ _ _ qy4) ?_
      show gi_Ev M_X6_end 32 [some (.ref x0), some (.int x1), some (.int x2), g3] [.int y4] h _
      refine gi_Ev_eq rfl (fun c5 => ?_) (fun c5 => ?_)
      · rw [if_pos c5] at hf
        refine gi_EvN 2 (pc' := 15) (lv' := [some (.ref x0), some (.int x1), some (.int (x2 + 1)), g3]) (st' := []) (h' := h) rfl ?_
        exact ih _ _ _  _  _ _ hf
      · rw [if_neg c5] at hf
        refine gi_EvN 2 (pc' := 37) (lv' := [some (.ref x0), some (.int x1), some (.int x2), g3]) (st' := [.int x2, .ref x0]) (h' := h) rfl ?_
        by_cases c7 : gi_is h x0 6 = true
        rotate_left
        · rw [if_neg c7] at hf; cases hf
        rw [if_pos c7] at hf
        obtain ⟨y6, qy6, hf⟩ := gi_bind hf
        refine gi_EvCV rfl rfl c7 rfl rfl (e_X6_lifeOf h _ _ _ qy6) ?_
        show gi_Ev M_X6_end 40 [some (.ref x0), some (.int x1), some (.int x2), g3] [.int y6] h _
        refine gi_EvN 1 (pc' := 41) (lv' := [some (.ref x0), some (.int x1), some (.int x2), g3]) (st' := [.int x1, .int y6]) (h' := h) rfl ?_
        refine gi_Ev_ine rfl (fun c8 => ?_) (fun c8 => ?_)
        · rw [if_pos c8] at hf
          refine gi_EvN 2 (pc' := 46) (lv' := [some (.ref x0), some (.int x1), some (.int x2), g3]) (st' := [.int x2, .ref x0]) (h' := h) rfl ?_
          by_cases c10 : gi_is h x0 6 = true
          rotate_left
          · rw [if_neg c10] at hf; cases hf
          rw [if_pos c10] at hf
          obtain ⟨y9, qy9, hf⟩ := gi_bind hf
          refine gi_EvCV rfl rfl c10 rfl rfl (e_X6_sumOf h _ _ _ qy9) ?_
          show gi_Ev M_X6_end 49 [some (.ref x0), some (.int x1), some (.int x2), g3] [.int y9] h _
          refine gi_EvN 1 (pc' := 50) (lv' := [some (.ref x0), some (.int x1), some (.int x2), g3]) (st' := [.ref x0, .int y9]) (h' := h) rfl ?_
          obtain ⟨y11, qy11, hf⟩ := gi_bind hf
          refine gi_EvF rfl (gi_fR_inv qy11) ?_
          refine gi_EvN 1 (pc' := 55) (lv' := [some (.ref x0), some (.int x1), some (.int x2), g3]) (st' := [.int 10, .ref y11, .int y9]) (h' := h) rfl ?_
          obtain ⟨y12, qy12, hf⟩ := gi_bind hf
          refine gi_EvAi rfl qy12 ?_
          refine gi_Ev_ige rfl (fun c13 => ?_) (fun c13 => ?_)
          · rw [if_pos c13] at hf
            refine gi_EvN 1 (pc' := 68) (lv' := [some (.ref x0), some (.int x1), some (.int x2), g3]) (st' := [.ref x0]) (h' := h) rfl ?_
            obtain ⟨y14, qy14, hf⟩ := gi_bind hf
            refine gi_EvF rfl (gi_fR_inv qy14) ?_
            refine gi_EvN 1 (pc' := 73) (lv' := [some (.ref x0), some (.int x1), some (.int x2), g3]) (st' := [.int 10, .ref y14]) (h' := h) rfl ?_
            obtain ⟨y15, qy15, hf⟩ := gi_bind hf
            refine gi_EvAi rfl qy15 ?_
            exact e_X6_end_74 _ ih _ h _ _ _ _ _ hf
          · rw [if_neg c13] at hf
            refine gi_EvN 2 (pc' := 61) (lv' := [some (.ref x0), some (.int x1), some (.int x2), g3]) (st' := [.int x2, .ref x0]) (h' := h) rfl ?_
            by_cases c17 : gi_is h x0 6 = true
            rotate_left
            · rw [if_neg c17] at hf; cases hf
            rw [if_pos c17] at hf
            obtain ⟨y16, qy16, hf⟩ := gi_bind hf
            refine gi_EvCV rfl rfl c17 rfl rfl (e_X6_sumOf h _ _ _ qy16) ?_
            show gi_Ev M_X6_end 64 [some (.ref x0), some (.int x1), some (.int x2), g3] [.int y16] h _
            refine gi_EvN 1 (pc' := 74) (lv' := [some (.ref x0), some (.int x1), some (.int x2), g3]) (st' := [.int y16]) (h' := h) rfl ?_
            exact e_X6_end_74 _ ih _ h _ _ _ _ _ hf
        · rw [if_neg c8] at hf
          refine gi_EvN 2 (pc' := 15) (lv' := [some (.ref x0), some (.int x1), some (.int (x2 + 1)), g3]) (st' := []) (h' := h) rfl ?_
          exact ih _ _ _  _  _ _ hf
def f_X6_end (h : gi_H) (x0 : Nat) (x1 : Int32) : Option gi_H :=
  (gi_fR h x0 6 1).bind fun y1 => (gi_ai h y1 0 12).bind fun y2 => (gi_pi h y1 0 12 (y2 ||| (1 <<< (x1 &&& 31)))).bind fun h3 => f_X6_end_15 gi_F h3 x0 x1 0
set_option maxRecDepth 20000 in
set_option maxHeartbeats 2000000 in
theorem e_X6_end (h : gi_H) (x0 : Nat) (x1 : Int32) (r : gi_H) (hf : f_X6_end h x0 x1 = some r) : gi_Ev M_X6_end 0 [some (.ref x0), some (.int x1), none, none] [] h (none, r) := by
  unfold f_X6_end at hf
  refine gi_EvN 1 (pc' := 1) (lv' := [some (.ref x0), some (.int x1), none, none]) (st' := [.ref x0]) (h' := h) rfl ?_
  obtain ⟨y1, qy1, hf⟩ := gi_bind hf
  refine gi_EvF rfl (gi_fR_inv qy1) ?_
  refine gi_EvN 2 (pc' := 7) (lv' := [some (.ref x0), some (.int x1), none, none]) (st' := [.int 12, .ref y1, .int 12, .ref y1]) (h' := h) rfl ?_
  obtain ⟨y2, qy2, hf⟩ := gi_bind hf
  refine gi_EvAi rfl qy2 ?_
  refine gi_EvN 4 (pc' := 12) (lv' := [some (.ref x0), some (.int x1), none, none]) (st' := [.int (y2 ||| (1 <<< (x1 &&& 31))), .int 12, .ref y1]) (h' := h) rfl ?_
  obtain ⟨h3, qh3, hf⟩ := gi_bind hf
  refine gi_EvPi rfl qh3 ?_
  refine gi_EvN 2 (pc' := 15) (lv' := [some (.ref x0), some (.int x1), some (.int 0), none]) (st' := []) (h' := h3) rfl ?_
  exact e_X6_end_15 gi_F _ h3 _ _ _ _ hf
/-! X6_life AdmiralGuineaModel.life(II)I -/
def f_X6_life_71 (h : gi_H) (t0 : Nat) (t1 : Int32) (t2 : Int32) (t3 : Int32) : Option (Int32 × gi_H) :=
  (gi_pi h t0 0 t1 (t2 + t3)).bind fun h1 => some (0, h1)
set_option maxRecDepth 20000 in
set_option maxHeartbeats 2000000 in
theorem e_X6_life_71 (g0 : Option Value) (g1 : Option Value) (g2 : Option Value) (h : gi_H) (t0 : Nat) (t1 : Int32) (t2 : Int32) (t3 : Int32) (r : (Int32 × gi_H)) (hf : f_X6_life_71 h t0 t1 t2 t3 = some r) : gi_Ev M_X6_life 71 [g0, g1, g2] [.int t3, .int t2, .int t1, .ref t0] h (some (.int r.1), r.2) := by
  unfold f_X6_life_71 at hf
  refine gi_EvN 1 (pc' := 72) (lv' := [g0, g1, g2]) (st' := [.int (t2 + t3), .int t1, .ref t0]) (h' := h) rfl ?_
  obtain ⟨h1, qh1, hf⟩ := gi_bind hf
  refine gi_EvPi rfl qh1 ?_
  refine gi_EvN 1 (pc' := 74) (lv' := [g0, g1, g2]) (st' := [.int 0]) (h' := h1) rfl ?_
  cases hf
  exact gi_EvR rfl rfl
def f_X6_life_47 (h : gi_H) (x0 : Nat) (x1 : Int32) (x2 : Int32) (t0 : Int32) (t1 : Int32) : Option (Int32 × gi_H) :=
  if t0 = t1 then some (6, h)
  else (gi_fR h x0 6 1).bind fun y2 => (gi_ai h y2 0 x1).bind fun y3 => if x2 = 43 then f_X6_life_71 h y2 x1 y3 (-1)
  else f_X6_life_71 h y2 x1 y3 1
set_option maxRecDepth 20000 in
set_option maxHeartbeats 2000000 in
theorem e_X6_life_47 (h : gi_H) (x0 : Nat) (x1 : Int32) (x2 : Int32) (t0 : Int32) (t1 : Int32) (r : (Int32 × gi_H)) (hf : f_X6_life_47 h x0 x1 x2 t0 t1 = some r) : gi_Ev M_X6_life 47 [some (.ref x0), some (.int x1), some (.int x2)] [.int t1, .int t0] h (some (.int r.1), r.2) := by
  unfold f_X6_life_47 at hf
  refine gi_Ev_ine rfl (fun c1 => ?_) (fun c1 => ?_)
  · rw [if_pos c1] at hf
    refine gi_EvN 1 (pc' := 52) (lv' := [some (.ref x0), some (.int x1), some (.int x2)]) (st' := [.int 6]) (h' := h) rfl ?_
    cases hf
    exact gi_EvR rfl rfl
  · rw [if_neg c1] at hf
    refine gi_EvN 1 (pc' := 54) (lv' := [some (.ref x0), some (.int x1), some (.int x2)]) (st' := [.ref x0]) (h' := h) rfl ?_
    obtain ⟨y2, qy2, hf⟩ := gi_bind hf
    refine gi_EvF rfl (gi_fR_inv qy2) ?_
    refine gi_EvN 2 (pc' := 59) (lv' := [some (.ref x0), some (.int x1), some (.int x2)]) (st' := [.int x1, .ref y2, .int x1, .ref y2]) (h' := h) rfl ?_
    obtain ⟨y3, qy3, hf⟩ := gi_bind hf
    refine gi_EvAi rfl qy3 ?_
    refine gi_EvN 2 (pc' := 63) (lv' := [some (.ref x0), some (.int x1), some (.int x2)]) (st' := [.int 43, .int x2, .int y3, .int x1, .ref y2]) (h' := h) rfl ?_
    refine gi_Ev_ine rfl (fun c4 => ?_) (fun c4 => ?_)
    · rw [if_pos c4] at hf
      refine gi_EvN 2 (pc' := 71) (lv' := [some (.ref x0), some (.int x1), some (.int x2)]) (st' := [.int (-1), .int y3, .int x1, .ref y2]) (h' := h) rfl ?_
      exact e_X6_life_71 _ _ _ h _ _ _ _ _ hf
    · rw [if_neg c4] at hf
      refine gi_EvN 1 (pc' := 71) (lv' := [some (.ref x0), some (.int x1), some (.int x2)]) (st' := [.int 1, .int y3, .int x1, .ref y2]) (h' := h) rfl ?_
      exact e_X6_life_71 _ _ _ h _ _ _ _ _ hf
def f_X6_life (h : gi_H) (x0 : Nat) (x1 : Int32) (x2 : Int32) : Option (Int32 × gi_H) :=
  (gi_fR h x0 6 1).bind fun y1 => (gi_ai h y1 0 12).bind fun y2 => (f_X6_has y2 x1).bind fun y3 => if y3 = 0 then if x2 = 120 then if gi_is h x0 6 = true then (f_X6_end h x0 x1).bind fun h6 => some (0, h6) else none
  else (gi_fR h x0 6 1).bind fun y8 => (gi_ai h y8 0 x1).bind fun y9 => if x2 = 43 then f_X6_life_47 h x0 x1 x2 y9 0
  else f_X6_life_47 h x0 x1 x2 y9 9
  else some (1, h)
set_option maxRecDepth 20000 in
set_option maxHeartbeats 2000000 in
theorem e_X6_life (h : gi_H) (x0 : Nat) (x1 : Int32) (x2 : Int32) (r : (Int32 × gi_H)) (hf : f_X6_life h x0 x1 x2 = some r) : gi_Ev M_X6_life 0 [some (.ref x0), some (.int x1), some (.int x2)] [] h (some (.int r.1), r.2) := by
  unfold f_X6_life at hf
  refine gi_EvN 1 (pc' := 1) (lv' := [some (.ref x0), some (.int x1), some (.int x2)]) (st' := [.ref x0]) (h' := h) rfl ?_
  obtain ⟨y1, qy1, hf⟩ := gi_bind hf
  refine gi_EvF rfl (gi_fR_inv qy1) ?_
  refine gi_EvN 1 (pc' := 6) (lv' := [some (.ref x0), some (.int x1), some (.int x2)]) (st' := [.int 12, .ref y1]) (h' := h) rfl ?_
  obtain ⟨y2, qy2, hf⟩ := gi_bind hf
  refine gi_EvAi rfl qy2 ?_
  refine gi_EvN 1 (pc' := 8) (lv' := [some (.ref x0), some (.int x1), some (.int x2)]) (st' := [.int x1, .int y2]) (h' := h) rfl ?_
  obtain ⟨y3, qy3, hf⟩ := gi_bind hf
  refine gi_EvCS rfl rfl rfl rfl rfl (e_X6_has h _ _ _ qy3) ?_
  show gi_Ev M_X6_life 11 [some (.ref x0), some (.int x1), some (.int x2)] [.int y3] h _
  refine gi_Ev_eq rfl (fun c4 => ?_) (fun c4 => ?_)
  · rw [if_pos c4] at hf
    refine gi_EvN 2 (pc' := 19) (lv' := [some (.ref x0), some (.int x1), some (.int x2)]) (st' := [.int 120, .int x2]) (h' := h) rfl ?_
    refine gi_Ev_ine rfl (fun c5 => ?_) (fun c5 => ?_)
    · rw [if_pos c5] at hf
      refine gi_EvN 2 (pc' := 24) (lv' := [some (.ref x0), some (.int x1), some (.int x2)]) (st' := [.int x1, .ref x0]) (h' := h) rfl ?_
      by_cases c7 : gi_is h x0 6 = true
      rotate_left
      · rw [if_neg c7] at hf; cases hf
      rw [if_pos c7] at hf
      obtain ⟨h6, qh6, hf⟩ := gi_bind hf
      refine gi_EvCV rfl rfl c7 rfl rfl (e_X6_end h _ _ _ qh6) ?_
      show gi_Ev M_X6_life 27 [some (.ref x0), some (.int x1), some (.int x2)] [] h6 _
      refine gi_EvN 1 (pc' := 28) (lv' := [some (.ref x0), some (.int x1), some (.int x2)]) (st' := [.int 0]) (h' := h6) rfl ?_
      cases hf
      exact gi_EvR rfl rfl
    · rw [if_neg c5] at hf
      refine gi_EvN 1 (pc' := 30) (lv' := [some (.ref x0), some (.int x1), some (.int x2)]) (st' := [.ref x0]) (h' := h) rfl ?_
      obtain ⟨y8, qy8, hf⟩ := gi_bind hf
      refine gi_EvF rfl (gi_fR_inv qy8) ?_
      refine gi_EvN 1 (pc' := 34) (lv' := [some (.ref x0), some (.int x1), some (.int x2)]) (st' := [.int x1, .ref y8]) (h' := h) rfl ?_
      obtain ⟨y9, qy9, hf⟩ := gi_bind hf
      refine gi_EvAi rfl qy9 ?_
      refine gi_EvN 2 (pc' := 38) (lv' := [some (.ref x0), some (.int x1), some (.int x2)]) (st' := [.int 43, .int x2, .int y9]) (h' := h) rfl ?_
      refine gi_Ev_ine rfl (fun c10 => ?_) (fun c10 => ?_)
      · rw [if_pos c10] at hf
        refine gi_EvN 2 (pc' := 47) (lv' := [some (.ref x0), some (.int x1), some (.int x2)]) (st' := [.int 0, .int y9]) (h' := h) rfl ?_
        exact e_X6_life_47 h _ _ _ _ _ _ hf
      · rw [if_neg c10] at hf
        refine gi_EvN 1 (pc' := 47) (lv' := [some (.ref x0), some (.int x1), some (.int x2)]) (st' := [.int 9, .int y9]) (h' := h) rfl ?_
        exact e_X6_life_47 h _ _ _ _ _ _ hf
  · rw [if_neg c4] at hf
    refine gi_EvN 1 (pc' := 15) (lv' := [some (.ref x0), some (.int x1), some (.int x2)]) (st' := [.int 1]) (h' := h) rfl ?_
    cases hf
    exact gi_EvR rfl rfl
/-! X6_month AdmiralGuineaModel.month()I -/
def f_X6_month_69 (h : gi_H) (x0 : Nat) : Option (Int32 × gi_H) :=
  (gi_fR h x0 6 1).bind fun y1 => (gi_ai h y1 0 11).bind fun y2 => (gi_pi h y1 0 11 (y2 + 1)).bind fun h3 => some (0, h3)
set_option maxRecDepth 20000 in
set_option maxHeartbeats 2000000 in
theorem e_X6_month_69 (g1 : Option Value) (h : gi_H) (x0 : Nat) (r : (Int32 × gi_H)) (hf : f_X6_month_69 h x0 = some r) : gi_Ev M_X6_month 69 [some (.ref x0), g1] [] h (some (.int r.1), r.2) := by
  unfold f_X6_month_69 at hf
  refine gi_EvN 1 (pc' := 70) (lv' := [some (.ref x0), g1]) (st' := [.ref x0]) (h' := h) rfl ?_
  obtain ⟨y1, qy1, hf⟩ := gi_bind hf
  refine gi_EvF rfl (gi_fR_inv qy1) ?_
  refine gi_EvN 2 (pc' := 76) (lv' := [some (.ref x0), g1]) (st' := [.int 11, .ref y1, .int 11, .ref y1]) (h' := h) rfl ?_
  obtain ⟨y2, qy2, hf⟩ := gi_bind hf
  refine gi_EvAi rfl qy2 ?_
  refine gi_EvN 2 (pc' := 79) (lv' := [some (.ref x0), g1]) (st' := [.int (y2 + 1), .int 11, .ref y1]) (h' := h) rfl ?_
  obtain ⟨h3, qh3, hf⟩ := gi_bind hf
  refine gi_EvPi rfl qh3 ?_
  refine gi_EvN 1 (pc' := 81) (lv' := [some (.ref x0), g1]) (st' := [.int 0]) (h' := h3) rfl ?_
  cases hf
  exact gi_EvR rfl rfl
def f_X6_month_17 : Nat → gi_H → Nat → Int32 → Option (Int32 × gi_H)
  | 0, _, _, _ => none
  | n + 1, h, x0, x1 => if 12 ≤ x1 then f_X6_month_69 h x0
  else (gi_fR h x0 6 1).bind fun y2 => (gi_ai h y2 0 14).bind fun y3 => (f_X6_has y3 x1).bind fun y4 => if y4 = 0 then f_X6_month_17 n h x0 (x1 + 1)
  else (gi_fR h x0 6 1).bind fun y6 => (gi_ai h y6 0 (18 + (4 * x1))).bind fun y7 => (gi_fR h x0 6 1).bind fun y8 => (gi_ai h y8 0 11).bind fun y9 => if y7 = y9 then if gi_is h x0 6 = true then (f_X6_gone h x0 x1).bind fun h11 => f_X6_month_17 n h11 x0 (x1 + 1) else none
  else f_X6_month_17 n h x0 (x1 + 1)
set_option maxRecDepth 20000 in
set_option maxHeartbeats 2000000 in
theorem e_X6_month_17 : ∀ (n : Nat) (h : gi_H) (x0 : Nat) (x1 : Int32) (r : (Int32 × gi_H)), f_X6_month_17 n h x0 x1 = some r → gi_Ev M_X6_month 17 [some (.ref x0), some (.int x1)] [] h (some (.int r.1), r.2) := by
  intro n
  induction n with
  | zero =>
    intro h x0 x1 r hf
    unfold f_X6_month_17 at hf
    cases hf
  | succ n ih =>
    intro h x0 x1 r hf
    unfold f_X6_month_17 at hf
    refine gi_EvN 2 (pc' := 20) (lv' := [some (.ref x0), some (.int x1)]) (st' := [.int 12, .int x1]) (h' := h) rfl ?_
    refine gi_Ev_ige rfl (fun c1 => ?_) (fun c1 => ?_)
    · rw [if_pos c1] at hf
      exact e_X6_month_69 _ h _ _ hf
    · rw [if_neg c1] at hf
      refine gi_EvN 1 (pc' := 24) (lv' := [some (.ref x0), some (.int x1)]) (st' := [.ref x0]) (h' := h) rfl ?_
      obtain ⟨y2, qy2, hf⟩ := gi_bind hf
      refine gi_EvF rfl (gi_fR_inv qy2) ?_
      refine gi_EvN 1 (pc' := 29) (lv' := [some (.ref x0), some (.int x1)]) (st' := [.int 14, .ref y2]) (h' := h) rfl ?_
      obtain ⟨y3, qy3, hf⟩ := gi_bind hf
      refine gi_EvAi rfl qy3 ?_
      refine gi_EvN 1 (pc' := 31) (lv' := [some (.ref x0), some (.int x1)]) (st' := [.int x1, .int y3]) (h' := h) rfl ?_
      obtain ⟨y4, qy4, hf⟩ := gi_bind hf
      refine gi_EvCS rfl rfl rfl rfl rfl (e_X6_has h _ _ _ qy4) ?_
      show gi_Ev M_X6_month 34 [some (.ref x0), some (.int x1)] [.int y4] h _
      refine gi_Ev_eq rfl (fun c5 => ?_) (fun c5 => ?_)
      · rw [if_pos c5] at hf
        refine gi_EvN 2 (pc' := 17) (lv' := [some (.ref x0), some (.int (x1 + 1))]) (st' := []) (h' := h) rfl ?_
        exact ih  _ _  _ _ hf
      · rw [if_neg c5] at hf
        refine gi_EvN 1 (pc' := 38) (lv' := [some (.ref x0), some (.int x1)]) (st' := [.ref x0]) (h' := h) rfl ?_
        obtain ⟨y6, qy6, hf⟩ := gi_bind hf
        refine gi_EvF rfl (gi_fR_inv qy6) ?_
        refine gi_EvN 5 (pc' := 47) (lv' := [some (.ref x0), some (.int x1)]) (st' := [.int (18 + (4 * x1)), .ref y6]) (h' := h) rfl ?_
        obtain ⟨y7, qy7, hf⟩ := gi_bind hf
        refine gi_EvAi rfl qy7 ?_
        refine gi_EvN 1 (pc' := 49) (lv' := [some (.ref x0), some (.int x1)]) (st' := [.ref x0, .int y7]) (h' := h) rfl ?_
        obtain ⟨y8, qy8, hf⟩ := gi_bind hf
        refine gi_EvF rfl (gi_fR_inv qy8) ?_
        refine gi_EvN 1 (pc' := 54) (lv' := [some (.ref x0), some (.int x1)]) (st' := [.int 11, .ref y8, .int y7]) (h' := h) rfl ?_
        obtain ⟨y9, qy9, hf⟩ := gi_bind hf
        refine gi_EvAi rfl qy9 ?_
        refine gi_Ev_ine rfl (fun c10 => ?_) (fun c10 => ?_)
        · rw [if_pos c10] at hf
          refine gi_EvN 2 (pc' := 60) (lv' := [some (.ref x0), some (.int x1)]) (st' := [.int x1, .ref x0]) (h' := h) rfl ?_
          by_cases c12 : gi_is h x0 6 = true
          rotate_left
          · rw [if_neg c12] at hf; cases hf
          rw [if_pos c12] at hf
          obtain ⟨h11, qh11, hf⟩ := gi_bind hf
          refine gi_EvCV rfl rfl c12 rfl rfl (e_X6_gone h _ _ _ qh11) ?_
          show gi_Ev M_X6_month 63 [some (.ref x0), some (.int x1)] [] h11 _
          refine gi_EvN 2 (pc' := 17) (lv' := [some (.ref x0), some (.int (x1 + 1))]) (st' := []) (h' := h11) rfl ?_
          exact ih  _ _  _ _ hf
        · rw [if_neg c10] at hf
          refine gi_EvN 2 (pc' := 17) (lv' := [some (.ref x0), some (.int (x1 + 1))]) (st' := []) (h' := h) rfl ?_
          exact ih  _ _  _ _ hf
def f_X6_month (h : gi_H) (x0 : Nat) : Option (Int32 × gi_H) :=
  (gi_fR h x0 6 1).bind fun y1 => (gi_ai h y1 0 11).bind fun y2 => if y2 = 99 then some (7, h)
  else f_X6_month_17 gi_F h x0 0
set_option maxRecDepth 20000 in
set_option maxHeartbeats 2000000 in
theorem e_X6_month (h : gi_H) (x0 : Nat) (r : (Int32 × gi_H)) (hf : f_X6_month h x0 = some r) : gi_Ev M_X6_month 0 [some (.ref x0), none] [] h (some (.int r.1), r.2) := by
  unfold f_X6_month at hf
  refine gi_EvN 1 (pc' := 1) (lv' := [some (.ref x0), none]) (st' := [.ref x0]) (h' := h) rfl ?_
  obtain ⟨y1, qy1, hf⟩ := gi_bind hf
  refine gi_EvF rfl (gi_fR_inv qy1) ?_
  refine gi_EvN 1 (pc' := 6) (lv' := [some (.ref x0), none]) (st' := [.int 11, .ref y1]) (h' := h) rfl ?_
  obtain ⟨y2, qy2, hf⟩ := gi_bind hf
  refine gi_EvAi rfl qy2 ?_
  refine gi_EvN 1 (pc' := 9) (lv' := [some (.ref x0), none]) (st' := [.int 99, .int y2]) (h' := h) rfl ?_
  refine gi_Ev_ine rfl (fun c3 => ?_) (fun c3 => ?_)
  · rw [if_pos c3] at hf
    refine gi_EvN 1 (pc' := 14) (lv' := [some (.ref x0), none]) (st' := [.int 7]) (h' := h) rfl ?_
    cases hf
    exact gi_EvR rfl rfl
  · rw [if_neg c3] at hf
    refine gi_EvN 2 (pc' := 17) (lv' := [some (.ref x0), some (.int 0)]) (st' := []) (h' := h) rfl ?_
    exact e_X6_month_17 gi_F h _ _ _ hf
/-! X6_goMonths AdmiralGuineaModel.goMonths()I -/
def f_X6_goMonths_204 (h : gi_H) (x0 : Nat) : Option (Int32 × gi_H) :=
  (gi_fI h x0 6 9).bind fun y1 => some (y1, h)
set_option maxRecDepth 20000 in
set_option maxHeartbeats 2000000 in
theorem e_X6_goMonths_204 (g1 : Option Value) (g2 : Option Value) (h : gi_H) (x0 : Nat) (r : (Int32 × gi_H)) (hf : f_X6_goMonths_204 h x0 = some r) : gi_Ev M_X6_goMonths 204 [some (.ref x0), g1, g2] [] h (some (.int r.1), r.2) := by
  unfold f_X6_goMonths_204 at hf
  refine gi_EvN 1 (pc' := 205) (lv' := [some (.ref x0), g1, g2]) (st' := [.ref x0]) (h' := h) rfl ?_
  obtain ⟨y1, qy1, hf⟩ := gi_bind hf
  refine gi_EvF rfl (gi_fI_inv qy1) ?_
  cases hf
  exact gi_EvR rfl rfl
def f_X6_goMonths_235 (k_22 : gi_H → Nat → Int32 → Option (Int32 × gi_H)) (h : gi_H) (x0 : Nat) (x1 : Int32) (t0 : Nat) (t1 : Int32) : Option (Int32 × gi_H) :=
  (gi_fp h t0 6 10 (.int t1)).bind fun h1 => (gi_fI h1 x0 6 9).bind fun y2 => (gi_fp h1 x0 6 9 (.int (y2 + 1))).bind fun h3 => k_22 h3 x0 x1
set_option maxRecDepth 20000 in
set_option maxHeartbeats 2000000 in
theorem e_X6_goMonths_235 (k_22 : gi_H → Nat → Int32 → Option (Int32 × gi_H)) (hk_22 : ∀ (g2 : Option Value) (h : gi_H) (x0 : Nat) (x1 : Int32) (r : (Int32 × gi_H)), k_22 h x0 x1 = some r → gi_Ev M_X6_goMonths 22 [some (.ref x0), some (.int x1), g2] [] h (some (.int r.1), r.2)) (g2 : Option Value) (h : gi_H) (x0 : Nat) (x1 : Int32) (t0 : Nat) (t1 : Int32) (r : (Int32 × gi_H)) (hf : f_X6_goMonths_235 k_22 h x0 x1 t0 t1 = some r) : gi_Ev M_X6_goMonths 235 [some (.ref x0), some (.int x1), g2] [.int t1, .ref t0] h (some (.int r.1), r.2) := by
  unfold f_X6_goMonths_235 at hf
  obtain ⟨h1, qh1, hf⟩ := gi_bind hf
  refine gi_EvFp rfl rfl qh1 ?_
  refine gi_EvN 2 (pc' := 240) (lv' := [some (.ref x0), some (.int x1), g2]) (st' := [.ref x0, .ref x0]) (h' := h1) rfl ?_
  obtain ⟨y2, qy2, hf⟩ := gi_bind hf
  refine gi_EvF rfl (gi_fI_inv qy2) ?_
  refine gi_EvN 2 (pc' := 245) (lv' := [some (.ref x0), some (.int x1), g2]) (st' := [.int (y2 + 1), .ref x0]) (h' := h1) rfl ?_
  obtain ⟨h3, qh3, hf⟩ := gi_bind hf
  refine gi_EvFp rfl rfl qh3 ?_
  refine gi_EvN 1 (pc' := 22) (lv' := [some (.ref x0), some (.int x1), g2]) (st' := []) (h' := h3) rfl ?_
  exact hk_22 _ _ _  _ _ hf
def f_X6_goMonths_231 (k_22 : gi_H → Nat → Int32 → Option (Int32 × gi_H)) (h : gi_H) (x0 : Nat) (x1 : Int32) (t0 : Nat) : Option (Int32 × gi_H) :=
  (gi_fI h x0 6 10).bind fun y1 => f_X6_goMonths_235 k_22 h x0 x1 t0 y1
set_option maxRecDepth 20000 in
set_option maxHeartbeats 2000000 in
theorem e_X6_goMonths_231 (k_22 : gi_H → Nat → Int32 → Option (Int32 × gi_H)) (hk_22 : ∀ (g2 : Option Value) (h : gi_H) (x0 : Nat) (x1 : Int32) (r : (Int32 × gi_H)), k_22 h x0 x1 = some r → gi_Ev M_X6_goMonths 22 [some (.ref x0), some (.int x1), g2] [] h (some (.int r.1), r.2)) (g2 : Option Value) (h : gi_H) (x0 : Nat) (x1 : Int32) (t0 : Nat) (r : (Int32 × gi_H)) (hf : f_X6_goMonths_231 k_22 h x0 x1 t0 = some r) : gi_Ev M_X6_goMonths 231 [some (.ref x0), some (.int x1), g2] [.ref t0] h (some (.int r.1), r.2) := by
  unfold f_X6_goMonths_231 at hf
  refine gi_EvN 1 (pc' := 232) (lv' := [some (.ref x0), some (.int x1), g2]) (st' := [.ref x0, .ref t0]) (h' := h) rfl ?_
  obtain ⟨y1, qy1, hf⟩ := gi_bind hf
  refine gi_EvF rfl (gi_fI_inv qy1) ?_
  exact e_X6_goMonths_235 _ hk_22 _ h _ _ _ _ _ hf
def f_X6_goMonths_197 (k_22 : gi_H → Nat → Int32 → Option (Int32 × gi_H)) (h : gi_H) (x0 : Nat) (x1 : Int32) : Option (Int32 × gi_H) :=
  (gi_fI h x0 6 8).bind fun y1 => if y1 ≤ 0 then (gi_fI h x0 6 10).bind fun y3 => if 0 ≤ y3 then f_X6_goMonths_231 k_22 h x0 x1 x0
  else (gi_fI h x0 6 7).bind fun y5 => if y5 = 0 then f_X6_goMonths_231 k_22 h x0 x1 x0
  else (gi_fI h x0 6 9).bind fun y7 => f_X6_goMonths_235 k_22 h x0 x1 x0 y7
  else f_X6_goMonths_204 h x0
set_option maxRecDepth 20000 in
set_option maxHeartbeats 2000000 in
theorem e_X6_goMonths_197 (k_22 : gi_H → Nat → Int32 → Option (Int32 × gi_H)) (hk_22 : ∀ (g2 : Option Value) (h : gi_H) (x0 : Nat) (x1 : Int32) (r : (Int32 × gi_H)), k_22 h x0 x1 = some r → gi_Ev M_X6_goMonths 22 [some (.ref x0), some (.int x1), g2] [] h (some (.int r.1), r.2)) (g2 : Option Value) (h : gi_H) (x0 : Nat) (x1 : Int32) (r : (Int32 × gi_H)) (hf : f_X6_goMonths_197 k_22 h x0 x1 = some r) : gi_Ev M_X6_goMonths 197 [some (.ref x0), some (.int x1), g2] [] h (some (.int r.1), r.2) := by
  unfold f_X6_goMonths_197 at hf
  refine gi_EvN 1 (pc' := 198) (lv' := [some (.ref x0), some (.int x1), g2]) (st' := [.ref x0]) (h' := h) rfl ?_
  obtain ⟨y1, qy1, hf⟩ := gi_bind hf
  refine gi_EvF rfl (gi_fI_inv qy1) ?_
  refine gi_Ev_le rfl (fun c2 => ?_) (fun c2 => ?_)
  · rw [if_pos c2] at hf
    refine gi_EvN 2 (pc' := 211) (lv' := [some (.ref x0), some (.int x1), g2]) (st' := [.ref x0, .ref x0]) (h' := h) rfl ?_
    obtain ⟨y3, qy3, hf⟩ := gi_bind hf
    refine gi_EvF rfl (gi_fI_inv qy3) ?_
    refine gi_Ev_ge rfl (fun c4 => ?_) (fun c4 => ?_)
    · rw [if_pos c4] at hf
      exact e_X6_goMonths_231 _ hk_22 _ h _ _ _ _ hf
    · rw [if_neg c4] at hf
      refine gi_EvN 1 (pc' := 218) (lv' := [some (.ref x0), some (.int x1), g2]) (st' := [.ref x0, .ref x0]) (h' := h) rfl ?_
      obtain ⟨y5, qy5, hf⟩ := gi_bind hf
      refine gi_EvF rfl (gi_fI_inv qy5) ?_
      refine gi_Ev_eq rfl (fun c6 => ?_) (fun c6 => ?_)
      · rw [if_pos c6] at hf
        exact e_X6_goMonths_231 _ hk_22 _ h _ _ _ _ hf
      · rw [if_neg c6] at hf
        refine gi_EvN 1 (pc' := 225) (lv' := [some (.ref x0), some (.int x1), g2]) (st' := [.ref x0, .ref x0]) (h' := h) rfl ?_
        obtain ⟨y7, qy7, hf⟩ := gi_bind hf
        refine gi_EvF rfl (gi_fI_inv qy7) ?_
        refine gi_EvN 1 (pc' := 235) (lv' := [some (.ref x0), some (.int x1), g2]) (st' := [.int y7, .ref x0]) (h' := h) rfl ?_
        exact e_X6_goMonths_235 _ hk_22 _ h _ _ _ _ _ hf
  · rw [if_neg c2] at hf
    exact e_X6_goMonths_204 _ _ h _ _ hf
def f_X6_goMonths_22 : Nat → gi_H → Nat → Int32 → Option (Int32 × gi_H)
  | 0, _, _, _ => none
  | n + 1, h, x0, x1 => (gi_fI h x0 6 4).bind fun y1 => if y1 ≤ x1 then some ((-6), h)
  else (gi_fR h x0 6 5).bind fun y3 => (gi_ai h y3 0 x1).bind fun y4 => (gi_fp h x0 6 7 (.int 0)).bind fun h5 => if y4 = 46 then if gi_is h5 x0 6 = true then (f_X6_month h5 x0).bind fun y7 => (gi_fp y7.2 x0 6 8 (.int y7.1)).bind fun h9 => f_X6_goMonths_197 (f_X6_goMonths_22 n) h9 x0 (x1 + 1) else none
  else (f_X6_isLifeSign y4).bind fun y10 => if y10 = 0 then (gi_fR h5 x0 6 5).bind fun y12 => (gi_ai h5 y12 0 (x1 + 1)).bind fun y13 => (f_X6_isLifeSign y13).bind fun y14 => if y14 = 0 then (gi_fR h5 x0 6 5).bind fun y16 => (gi_ai h5 y16 0 (x1 + 1)).bind fun y17 => (gi_fR h5 x0 6 5).bind fun y18 => (gi_ai h5 y18 0 (x1 + 2)).bind fun y19 => if gi_is h5 x0 6 = true then (f_X6_passes h5 x0 (y4 - 97) (y17 - 48) (y19 - 97)).bind fun y20 => (gi_fp y20.2 x0 6 8 (.int y20.1)).bind fun h22 => f_X6_goMonths_197 (f_X6_goMonths_22 n) h22 x0 (x1 + 3) else none
  else (gi_fR h5 x0 6 5).bind fun y23 => (gi_ai h5 y23 0 (x1 + 1)).bind fun y24 => (gi_fR h5 x0 6 5).bind fun y25 => (gi_ai h5 y25 0 (x1 + 2)).bind fun y26 => (gi_fR h5 x0 6 5).bind fun y27 => (gi_ai h5 y27 0 (x1 + 3)).bind fun y28 => if gi_is h5 x0 6 = true then (f_X6_buy h5 x0 (y4 - 97) (y24 - 65) (y26 - 48) (y28 - 48)).bind fun y29 => (gi_fp y29.2 x0 6 8 (.int y29.1)).bind fun h31 => f_X6_goMonths_197 (f_X6_goMonths_22 n) h31 x0 (x1 + 4) else none
  else (gi_fR h5 x0 6 5).bind fun y32 => (gi_ai h5 y32 0 (x1 + 1)).bind fun y33 => if gi_is h5 x0 6 = true then (f_X6_life h5 x0 (y4 - 65) y33).bind fun y34 => (gi_fp y34.2 x0 6 8 (.int y34.1)).bind fun h36 => f_X6_goMonths_197 (f_X6_goMonths_22 n) h36 x0 (x1 + 2) else none
set_option maxRecDepth 20000 in
set_option maxHeartbeats 2000000 in
theorem e_X6_goMonths_22 : ∀ (n : Nat) (g2 : Option Value) (h : gi_H) (x0 : Nat) (x1 : Int32) (r : (Int32 × gi_H)), f_X6_goMonths_22 n h x0 x1 = some r → gi_Ev M_X6_goMonths 22 [some (.ref x0), some (.int x1), g2] [] h (some (.int r.1), r.2) := by
  intro n
  induction n with
  | zero =>
    intro g2 h x0 x1 r hf
    unfold f_X6_goMonths_22 at hf
    cases hf
  | succ n ih =>
    intro g2 h x0 x1 r hf
    unfold f_X6_goMonths_22 at hf
    refine gi_EvN 2 (pc' := 24) (lv' := [some (.ref x0), some (.int x1), g2]) (st' := [.ref x0, .int x1]) (h' := h) rfl ?_
    obtain ⟨y1, qy1, hf⟩ := gi_bind hf
    refine gi_EvF rfl (gi_fI_inv qy1) ?_
    refine gi_Ev_ige rfl (fun c2 => ?_) (fun c2 => ?_)
    · rw [if_pos c2] at hf
      refine gi_EvN 1 (pc' := 253) (lv' := [some (.ref x0), some (.int x1), g2]) (st' := [.int (-6)]) (h' := h) rfl ?_
      cases hf
      exact gi_EvR rfl rfl
    · rw [if_neg c2] at hf
      refine gi_EvN 1 (pc' := 31) (lv' := [some (.ref x0), some (.int x1), g2]) (st' := [.ref x0]) (h' := h) rfl ?_
      obtain ⟨y3, qy3, hf⟩ := gi_bind hf
      refine gi_EvF rfl (gi_fR_inv qy3) ?_
      refine gi_EvN 1 (pc' := 35) (lv' := [some (.ref x0), some (.int x1), g2]) (st' := [.int x1, .ref y3]) (h' := h) rfl ?_
      obtain ⟨y4, qy4, hf⟩ := gi_bind hf
      refine gi_EvAi rfl qy4 ?_
      refine gi_EvN 3 (pc' := 39) (lv' := [some (.ref x0), some (.int x1), some (.int y4)]) (st' := [.int 0, .ref x0]) (h' := h) rfl ?_
      obtain ⟨h5, qh5, hf⟩ := gi_bind hf
      refine gi_EvFp rfl rfl qh5 ?_
      refine gi_EvN 2 (pc' := 45) (lv' := [some (.ref x0), some (.int x1), some (.int y4)]) (st' := [.int 46, .int y4]) (h' := h5) rfl ?_
      refine gi_Ev_ine rfl (fun c6 => ?_) (fun c6 => ?_)
      · rw [if_pos c6] at hf
        refine gi_EvN 2 (pc' := 50) (lv' := [some (.ref x0), some (.int x1), some (.int y4)]) (st' := [.ref x0, .ref x0]) (h' := h5) rfl ?_
        by_cases c8 : gi_is h5 x0 6 = true
        rotate_left
        · rw [if_neg c8] at hf; cases hf
        rw [if_pos c8] at hf
        obtain ⟨y7, qy7, hf⟩ := gi_bind hf
        refine gi_EvCV rfl rfl c8 rfl rfl (e_X6_month h5 _ _ qy7) ?_
        show gi_Ev M_X6_goMonths 53 [some (.ref x0), some (.int x1), some (.int y4)] [.int y7.1, .ref x0] y7.2 _
        obtain ⟨h9, qh9, hf⟩ := gi_bind hf
        refine gi_EvFp rfl rfl qh9 ?_
        refine gi_EvN 2 (pc' := 197) (lv' := [some (.ref x0), some (.int (x1 + 1)), some (.int y4)]) (st' := []) (h' := h9) rfl ?_
        exact e_X6_goMonths_197 _ ih _ h9 _ _ _ hf
      · rw [if_neg c6] at hf
        refine gi_EvN 1 (pc' := 63) (lv' := [some (.ref x0), some (.int x1), some (.int y4)]) (st' := [.int y4]) (h' := h5) rfl ?_
        obtain ⟨y10, qy10, hf⟩ := gi_bind hf
        refine gi_EvCS rfl rfl rfl rfl rfl (e_X6_isLifeSign h5 _ _ qy10) ?_
        show gi_Ev M_X6_goMonths 66 [some (.ref x0), some (.int x1), some (.int y4)] [.int y10] h5 _
        refine gi_Ev_eq rfl (fun c11 => ?_) (fun c11 => ?_)
        · rw [if_pos c11] at hf
          refine gi_EvN 1 (pc' := 96) (lv' := [some (.ref x0), some (.int x1), some (.int y4)]) (st' := [.ref x0]) (h' := h5) rfl ?_
          obtain ⟨y12, qy12, hf⟩ := gi_bind hf
          refine gi_EvF rfl (gi_fR_inv qy12) ?_
          refine gi_EvN 3 (pc' := 102) (lv' := [some (.ref x0), some (.int x1), some (.int y4)]) (st' := [.int (x1 + 1), .ref y12]) (h' := h5) rfl ?_
          obtain ⟨y13, qy13, hf⟩ := gi_bind hf
          refine gi_EvAi rfl qy13 ?_
          obtain ⟨y14, qy14, hf⟩ := gi_bind hf
          refine gi_EvCS rfl rfl rfl rfl rfl (e_X6_isLifeSign h5 _ _ qy14) ?_
          show gi_Ev M_X6_goMonths 106 [some (.ref x0), some (.int x1), some (.int y4)] [.int y14] h5 _
          refine gi_Ev_eq rfl (fun c15 => ?_) (fun c15 => ?_)
          · rw [if_pos c15] at hf
            refine gi_EvN 6 (pc' := 167) (lv' := [some (.ref x0), some (.int x1), some (.int y4)]) (st' := [.ref x0, .int (y4 - 97), .ref x0, .ref x0]) (h' := h5) rfl ?_
            obtain ⟨y16, qy16, hf⟩ := gi_bind hf
            refine gi_EvF rfl (gi_fR_inv qy16) ?_
            refine gi_EvN 3 (pc' := 173) (lv' := [some (.ref x0), some (.int x1), some (.int y4)]) (st' := [.int (x1 + 1), .ref y16, .int (y4 - 97), .ref x0, .ref x0]) (h' := h5) rfl ?_
            obtain ⟨y17, qy17, hf⟩ := gi_bind hf
            refine gi_EvAi rfl qy17 ?_
            refine gi_EvN 3 (pc' := 178) (lv' := [some (.ref x0), some (.int x1), some (.int y4)]) (st' := [.ref x0, .int (y17 - 48), .int (y4 - 97), .ref x0, .ref x0]) (h' := h5) rfl ?_
            obtain ⟨y18, qy18, hf⟩ := gi_bind hf
            refine gi_EvF rfl (gi_fR_inv qy18) ?_
            refine gi_EvN 3 (pc' := 184) (lv' := [some (.ref x0), some (.int x1), some (.int y4)]) (st' := [.int (x1 + 2), .ref y18, .int (y17 - 48), .int (y4 - 97), .ref x0, .ref x0]) (h' := h5) rfl ?_
            obtain ⟨y19, qy19, hf⟩ := gi_bind hf
            refine gi_EvAi rfl qy19 ?_
            refine gi_EvN 2 (pc' := 188) (lv' := [some (.ref x0), some (.int x1), some (.int y4)]) (st' := [.int (y19 - 97), .int (y17 - 48), .int (y4 - 97), .ref x0, .ref x0]) (h' := h5) rfl ?_
            by_cases c21 : gi_is h5 x0 6 = true
            rotate_left
            · rw [if_neg c21] at hf; cases hf
            rw [if_pos c21] at hf
            obtain ⟨y20, qy20, hf⟩ := gi_bind hf
            refine gi_EvCV rfl rfl c21 rfl rfl (e_X6_passes h5 _ _ _ _ _ qy20) ?_
            show gi_Ev M_X6_goMonths 191 [some (.ref x0), some (.int x1), some (.int y4)] [.int y20.1, .ref x0] y20.2 _
            obtain ⟨h22, qh22, hf⟩ := gi_bind hf
            refine gi_EvFp rfl rfl qh22 ?_
            refine gi_EvN 1 (pc' := 197) (lv' := [some (.ref x0), some (.int (x1 + 3)), some (.int y4)]) (st' := []) (h' := h22) rfl ?_
            exact e_X6_goMonths_197 _ ih _ h22 _ _ _ hf
          · rw [if_neg c15] at hf
            refine gi_EvN 6 (pc' := 116) (lv' := [some (.ref x0), some (.int x1), some (.int y4)]) (st' := [.ref x0, .int (y4 - 97), .ref x0, .ref x0]) (h' := h5) rfl ?_
            obtain ⟨y23, qy23, hf⟩ := gi_bind hf
            refine gi_EvF rfl (gi_fR_inv qy23) ?_
            refine gi_EvN 3 (pc' := 122) (lv' := [some (.ref x0), some (.int x1), some (.int y4)]) (st' := [.int (x1 + 1), .ref y23, .int (y4 - 97), .ref x0, .ref x0]) (h' := h5) rfl ?_
            obtain ⟨y24, qy24, hf⟩ := gi_bind hf
            refine gi_EvAi rfl qy24 ?_
            refine gi_EvN 3 (pc' := 127) (lv' := [some (.ref x0), some (.int x1), some (.int y4)]) (st' := [.ref x0, .int (y24 - 65), .int (y4 - 97), .ref x0, .ref x0]) (h' := h5) rfl ?_
            obtain ⟨y25, qy25, hf⟩ := gi_bind hf
            refine gi_EvF rfl (gi_fR_inv qy25) ?_
            refine gi_EvN 3 (pc' := 133) (lv' := [some (.ref x0), some (.int x1), some (.int y4)]) (st' := [.int (x1 + 2), .ref y25, .int (y24 - 65), .int (y4 - 97), .ref x0, .ref x0]) (h' := h5) rfl ?_
            obtain ⟨y26, qy26, hf⟩ := gi_bind hf
            refine gi_EvAi rfl qy26 ?_
            refine gi_EvN 3 (pc' := 138) (lv' := [some (.ref x0), some (.int x1), some (.int y4)]) (st' := [.ref x0, .int (y26 - 48), .int (y24 - 65), .int (y4 - 97), .ref x0, .ref x0]) (h' := h5) rfl ?_
            obtain ⟨y27, qy27, hf⟩ := gi_bind hf
            refine gi_EvF rfl (gi_fR_inv qy27) ?_
            refine gi_EvN 3 (pc' := 144) (lv' := [some (.ref x0), some (.int x1), some (.int y4)]) (st' := [.int (x1 + 3), .ref y27, .int (y26 - 48), .int (y24 - 65), .int (y4 - 97), .ref x0, .ref x0]) (h' := h5) rfl ?_
            obtain ⟨y28, qy28, hf⟩ := gi_bind hf
            refine gi_EvAi rfl qy28 ?_
            refine gi_EvN 2 (pc' := 148) (lv' := [some (.ref x0), some (.int x1), some (.int y4)]) (st' := [.int (y28 - 48), .int (y26 - 48), .int (y24 - 65), .int (y4 - 97), .ref x0, .ref x0]) (h' := h5) rfl ?_
            by_cases c30 : gi_is h5 x0 6 = true
            rotate_left
            · rw [if_neg c30] at hf; cases hf
            rw [if_pos c30] at hf
            obtain ⟨y29, qy29, hf⟩ := gi_bind hf
            refine gi_EvCV rfl rfl c30 rfl rfl (e_X6_buy h5 _ _ _ _ _ _ qy29) ?_
            show gi_Ev M_X6_goMonths 151 [some (.ref x0), some (.int x1), some (.int y4)] [.int y29.1, .ref x0] y29.2 _
            obtain ⟨h31, qh31, hf⟩ := gi_bind hf
            refine gi_EvFp rfl rfl qh31 ?_
            refine gi_EvN 2 (pc' := 197) (lv' := [some (.ref x0), some (.int (x1 + 4)), some (.int y4)]) (st' := []) (h' := h31) rfl ?_
            exact e_X6_goMonths_197 _ ih _ h31 _ _ _ hf
        · rw [if_neg c11] at hf
          refine gi_EvN 6 (pc' := 76) (lv' := [some (.ref x0), some (.int x1), some (.int y4)]) (st' := [.ref x0, .int (y4 - 65), .ref x0, .ref x0]) (h' := h5) rfl ?_
          obtain ⟨y32, qy32, hf⟩ := gi_bind hf
          refine gi_EvF rfl (gi_fR_inv qy32) ?_
          refine gi_EvN 3 (pc' := 82) (lv' := [some (.ref x0), some (.int x1), some (.int y4)]) (st' := [.int (x1 + 1), .ref y32, .int (y4 - 65), .ref x0, .ref x0]) (h' := h5) rfl ?_
          obtain ⟨y33, qy33, hf⟩ := gi_bind hf
          refine gi_EvAi rfl qy33 ?_
          by_cases c35 : gi_is h5 x0 6 = true
          rotate_left
          · rw [if_neg c35] at hf; cases hf
          rw [if_pos c35] at hf
          obtain ⟨y34, qy34, hf⟩ := gi_bind hf
          refine gi_EvCV rfl rfl c35 rfl rfl (e_X6_life h5 _ _ _ _ qy34) ?_
          show gi_Ev M_X6_goMonths 86 [some (.ref x0), some (.int x1), some (.int y4)] [.int y34.1, .ref x0] y34.2 _
          obtain ⟨h36, qh36, hf⟩ := gi_bind hf
          refine gi_EvFp rfl rfl qh36 ?_
          refine gi_EvN 2 (pc' := 197) (lv' := [some (.ref x0), some (.int (x1 + 2)), some (.int y4)]) (st' := []) (h' := h36) rfl ?_
          exact e_X6_goMonths_197 _ ih _ h36 _ _ _ hf
def f_X6_goMonths (h : gi_H) (x0 : Nat) : Option (Int32 × gi_H) :=
  if gi_is h x0 6 = true then (f_X6_asNow h x0).bind fun h1 => (gi_fp h1 x0 6 9 (.int 0)).bind fun h3 => (gi_fp h3 x0 6 6 (.int 0)).bind fun h4 => (gi_fp h4 x0 6 10 (.int (-6))).bind fun h5 => f_X6_goMonths_22 gi_F h5 x0 0 else none
set_option maxRecDepth 20000 in
set_option maxHeartbeats 2000000 in
theorem e_X6_goMonths (h : gi_H) (x0 : Nat) (r : (Int32 × gi_H)) (hf : f_X6_goMonths h x0 = some r) : gi_Ev M_X6_goMonths 0 [some (.ref x0), none, none] [] h (some (.int r.1), r.2) := by
  unfold f_X6_goMonths at hf
  refine gi_EvN 1 (pc' := 1) (lv' := [some (.ref x0), none, none]) (st' := [.ref x0]) (h' := h) rfl ?_
  by_cases c2 : gi_is h x0 6 = true
  rotate_left
  · rw [if_neg c2] at hf; cases hf
  rw [if_pos c2] at hf
  obtain ⟨h1, qh1, hf⟩ := gi_bind hf
  refine gi_EvCV rfl rfl c2 rfl rfl (e_X6_asNow h _ _ qh1) ?_
  show gi_Ev M_X6_goMonths 4 [some (.ref x0), none, none] [] h1 _
  refine gi_EvN 2 (pc' := 6) (lv' := [some (.ref x0), none, none]) (st' := [.int 0, .ref x0]) (h' := h1) rfl ?_
  obtain ⟨h3, qh3, hf⟩ := gi_bind hf
  refine gi_EvFp rfl rfl qh3 ?_
  refine gi_EvN 2 (pc' := 11) (lv' := [some (.ref x0), none, none]) (st' := [.int 0, .ref x0]) (h' := h3) rfl ?_
  obtain ⟨h4, qh4, hf⟩ := gi_bind hf
  refine gi_EvFp rfl rfl qh4 ?_
  refine gi_EvN 2 (pc' := 17) (lv' := [some (.ref x0), none, none]) (st' := [.int (-6), .ref x0]) (h' := h4) rfl ?_
  obtain ⟨h5, qh5, hf⟩ := gi_bind hf
  refine gi_EvFp rfl rfl qh5 ?_
  refine gi_EvN 2 (pc' := 22) (lv' := [some (.ref x0), some (.int 0), none]) (st' := []) (h' := h5) rfl ?_
  exact e_X6_goMonths_22 gi_F _ h5 _ _ _ hf
/-! X6_judge AdmiralGuineaModel.judge(I)I -/
def f_X6_judge (h : gi_H) (x0 : Nat) (x1 : Int32) : Option (Int32 × gi_H) :=
  (f_X6_in x1 0 1).bind fun y1 => if y1 = 0 then some ((-2), h)
  else if gi_is h x0 6 = true then (f_X6_faultOf h x0).bind fun y3 => if y3 < 0 then if gi_is h x0 6 = true then (f_X6_goMonths h x0).bind fun y6 => if y6.1 < 0 then some (y6.1, y6.2)
  else if x1 = 0 then some (y6.1, y6.2)
  else (gi_fI y6.2 x0 6 8).bind fun y10 => some (y10, y6.2) else none
  else some ((-5), h) else none
set_option maxRecDepth 20000 in
set_option maxHeartbeats 2000000 in
theorem e_X6_judge (h : gi_H) (x0 : Nat) (x1 : Int32) (r : (Int32 × gi_H)) (hf : f_X6_judge h x0 x1 = some r) : gi_Ev M_X6_judge 0 [some (.ref x0), some (.int x1), none] [] h (some (.int r.1), r.2) := by
  unfold f_X6_judge at hf
  refine gi_EvN 3 (pc' := 3) (lv' := [some (.ref x0), some (.int x1), none]) (st' := [.int 1, .int 0, .int x1]) (h' := h) rfl ?_
  obtain ⟨y1, qy1, hf⟩ := gi_bind hf
  refine gi_EvCS rfl rfl rfl rfl rfl (e_X6_in h _ _ _ _ qy1) ?_
  show gi_Ev M_X6_judge 6 [some (.ref x0), some (.int x1), none] [.int y1] h _
  refine gi_Ev_ne rfl (fun c2 => ?_) (fun c2 => ?_)
  · rw [if_pos c2] at hf
    refine gi_EvN 1 (pc' := 11) (lv' := [some (.ref x0), some (.int x1), none]) (st' := [.int (-2)]) (h' := h) rfl ?_
    cases hf
    exact gi_EvR rfl rfl
  · rw [if_neg c2] at hf
    refine gi_EvN 1 (pc' := 13) (lv' := [some (.ref x0), some (.int x1), none]) (st' := [.ref x0]) (h' := h) rfl ?_
    by_cases c4 : gi_is h x0 6 = true
    rotate_left
    · rw [if_neg c4] at hf; cases hf
    rw [if_pos c4] at hf
    obtain ⟨y3, qy3, hf⟩ := gi_bind hf
    refine gi_EvCV rfl rfl c4 rfl rfl (e_X6_faultOf h _ _ qy3) ?_
    show gi_Ev M_X6_judge 16 [some (.ref x0), some (.int x1), none] [.int y3] h _
    refine gi_Ev_lt rfl (fun c5 => ?_) (fun c5 => ?_)
    · rw [if_pos c5] at hf
      refine gi_EvN 1 (pc' := 23) (lv' := [some (.ref x0), some (.int x1), none]) (st' := [.ref x0]) (h' := h) rfl ?_
      by_cases c7 : gi_is h x0 6 = true
      rotate_left
      · rw [if_neg c7] at hf; cases hf
      rw [if_pos c7] at hf
      obtain ⟨y6, qy6, hf⟩ := gi_bind hf
      refine gi_EvCV rfl rfl c7 rfl rfl (e_X6_goMonths h _ _ qy6) ?_
      show gi_Ev M_X6_judge 26 [some (.ref x0), some (.int x1), none] [.int y6.1] y6.2 _
      refine gi_EvN 2 (pc' := 28) (lv' := [some (.ref x0), some (.int x1), some (.int y6.1)]) (st' := [.int y6.1]) (h' := y6.2) rfl ?_
      refine gi_Ev_lt rfl (fun c8 => ?_) (fun c8 => ?_)
      · rw [if_pos c8] at hf
        refine gi_EvN 2 (pc' := 43) (lv' := [some (.ref x0), some (.int x1), some (.int y6.1)]) (st' := [.int y6.1]) (h' := y6.2) rfl ?_
        cases hf
        exact gi_EvR rfl rfl
      · rw [if_neg c8] at hf
        refine gi_EvN 1 (pc' := 32) (lv' := [some (.ref x0), some (.int x1), some (.int y6.1)]) (st' := [.int x1]) (h' := y6.2) rfl ?_
        refine gi_Ev_ne rfl (fun c9 => ?_) (fun c9 => ?_)
        · rw [if_pos c9] at hf
          refine gi_EvN 2 (pc' := 43) (lv' := [some (.ref x0), some (.int x1), some (.int y6.1)]) (st' := [.int y6.1]) (h' := y6.2) rfl ?_
          cases hf
          exact gi_EvR rfl rfl
        · rw [if_neg c9] at hf
          refine gi_EvN 1 (pc' := 40) (lv' := [some (.ref x0), some (.int x1), some (.int y6.1)]) (st' := [.ref x0]) (h' := y6.2) rfl ?_
          obtain ⟨y10, qy10, hf⟩ := gi_bind hf
          refine gi_EvF rfl (gi_fI_inv qy10) ?_
          cases hf
          exact gi_EvR rfl rfl
    · rw [if_neg c5] at hf
      refine gi_EvN 1 (pc' := 21) (lv' := [some (.ref x0), some (.int x1), none]) (st' := [.int (-5)]) (h' := h) rfl ?_
      cases hf
      exact gi_EvR rfl rfl
/-! X6_barOfMonths AdmiralGuineaModel.barOfMonths()I -/
def f_X6_barOfMonths (h : gi_H) (x0 : Nat) : Option (Int32 × gi_H) :=
  if gi_is h x0 6 = true then (f_X6_faultOf h x0).bind fun y1 => if 0 ≤ y1 then some ((-5), h)
  else if gi_is h x0 6 = true then (f_X6_goMonths h x0).bind fun y4 => if y4.1 < 0 then some (0, y4.2)
  else some ((-5), y4.2) else none else none
set_option maxRecDepth 20000 in
set_option maxHeartbeats 2000000 in
theorem e_X6_barOfMonths (h : gi_H) (x0 : Nat) (r : (Int32 × gi_H)) (hf : f_X6_barOfMonths h x0 = some r) : gi_Ev M_X6_barOfMonths 0 [some (.ref x0)] [] h (some (.int r.1), r.2) := by
  unfold f_X6_barOfMonths at hf
  refine gi_EvN 1 (pc' := 1) (lv' := [some (.ref x0)]) (st' := [.ref x0]) (h' := h) rfl ?_
  by_cases c2 : gi_is h x0 6 = true
  rotate_left
  · rw [if_neg c2] at hf; cases hf
  rw [if_pos c2] at hf
  obtain ⟨y1, qy1, hf⟩ := gi_bind hf
  refine gi_EvCV rfl rfl c2 rfl rfl (e_X6_faultOf h _ _ qy1) ?_
  show gi_Ev M_X6_barOfMonths 4 [some (.ref x0)] [.int y1] h _
  refine gi_Ev_ge rfl (fun c3 => ?_) (fun c3 => ?_)
  · rw [if_pos c3] at hf
    refine gi_EvN 2 (pc' := 20) (lv' := [some (.ref x0)]) (st' := [.int (-5)]) (h' := h) rfl ?_
    cases hf
    exact gi_EvR rfl rfl
  · rw [if_neg c3] at hf
    refine gi_EvN 1 (pc' := 8) (lv' := [some (.ref x0)]) (st' := [.ref x0]) (h' := h) rfl ?_
    by_cases c5 : gi_is h x0 6 = true
    rotate_left
    · rw [if_neg c5] at hf; cases hf
    rw [if_pos c5] at hf
    obtain ⟨y4, qy4, hf⟩ := gi_bind hf
    refine gi_EvCV rfl rfl c5 rfl rfl (e_X6_goMonths h _ _ qy4) ?_
    show gi_Ev M_X6_barOfMonths 11 [some (.ref x0)] [.int y4.1] y4.2 _
    refine gi_Ev_lt rfl (fun c6 => ?_) (fun c6 => ?_)
    · rw [if_pos c6] at hf
      refine gi_EvN 1 (pc' := 20) (lv' := [some (.ref x0)]) (st' := [.int 0]) (h' := y4.2) rfl ?_
      cases hf
      exact gi_EvR rfl rfl
    · rw [if_neg c6] at hf
      refine gi_EvN 2 (pc' := 20) (lv' := [some (.ref x0)]) (st' := [.int (-5)]) (h' := y4.2) rfl ?_
      cases hf
      exact gi_EvR rfl rfl
/-! X6_done AdmiralGuineaModel.done()I -/
def f_X6_done_36 (h : gi_H) (x0 : Nat) : Option (Int32 × gi_H) :=
  (gi_fp h x0 6 4 (.int 0)).bind fun h1 => (gi_fI h1 x0 6 9).bind fun y2 => some (y2, h1)
set_option maxRecDepth 20000 in
set_option maxHeartbeats 2000000 in
theorem e_X6_done_36 (g1 : Option Value) (h : gi_H) (x0 : Nat) (r : (Int32 × gi_H)) (hf : f_X6_done_36 h x0 = some r) : gi_Ev M_X6_done 36 [some (.ref x0), g1] [] h (some (.int r.1), r.2) := by
  unfold f_X6_done_36 at hf
  refine gi_EvN 2 (pc' := 38) (lv' := [some (.ref x0), g1]) (st' := [.int 0, .ref x0]) (h' := h) rfl ?_
  obtain ⟨h1, qh1, hf⟩ := gi_bind hf
  refine gi_EvFp rfl rfl qh1 ?_
  refine gi_EvN 1 (pc' := 42) (lv' := [some (.ref x0), g1]) (st' := [.ref x0]) (h' := h1) rfl ?_
  obtain ⟨y2, qy2, hf⟩ := gi_bind hf
  refine gi_EvF rfl (gi_fI_inv qy2) ?_
  cases hf
  exact gi_EvR rfl rfl
def f_X6_done_12 : Nat → gi_H → Nat → Int32 → Option (Int32 × gi_H)
  | 0, _, _, _ => none
  | n + 1, h, x0, x1 => if 63 ≤ x1 then f_X6_done_36 h x0
  else (gi_fR h x0 6 0).bind fun y2 => (gi_fR h x0 6 1).bind fun y3 => (gi_ai h y3 0 x1).bind fun y4 => (gi_pi h y2 0 x1 y4).bind fun h5 => f_X6_done_12 n h5 x0 (x1 + 1)
set_option maxRecDepth 20000 in
set_option maxHeartbeats 2000000 in
theorem e_X6_done_12 : ∀ (n : Nat) (h : gi_H) (x0 : Nat) (x1 : Int32) (r : (Int32 × gi_H)), f_X6_done_12 n h x0 x1 = some r → gi_Ev M_X6_done 12 [some (.ref x0), some (.int x1)] [] h (some (.int r.1), r.2) := by
  intro n
  induction n with
  | zero =>
    intro h x0 x1 r hf
    unfold f_X6_done_12 at hf
    cases hf
  | succ n ih =>
    intro h x0 x1 r hf
    unfold f_X6_done_12 at hf
    refine gi_EvN 2 (pc' := 15) (lv' := [some (.ref x0), some (.int x1)]) (st' := [.int 63, .int x1]) (h' := h) rfl ?_
    refine gi_Ev_ige rfl (fun c1 => ?_) (fun c1 => ?_)
    · rw [if_pos c1] at hf
      exact e_X6_done_36 _ h _ _ hf
    · rw [if_neg c1] at hf
      refine gi_EvN 1 (pc' := 19) (lv' := [some (.ref x0), some (.int x1)]) (st' := [.ref x0]) (h' := h) rfl ?_
      obtain ⟨y2, qy2, hf⟩ := gi_bind hf
      refine gi_EvF rfl (gi_fR_inv qy2) ?_
      refine gi_EvN 2 (pc' := 24) (lv' := [some (.ref x0), some (.int x1)]) (st' := [.ref x0, .int x1, .ref y2]) (h' := h) rfl ?_
      obtain ⟨y3, qy3, hf⟩ := gi_bind hf
      refine gi_EvF rfl (gi_fR_inv qy3) ?_
      refine gi_EvN 1 (pc' := 28) (lv' := [some (.ref x0), some (.int x1)]) (st' := [.int x1, .ref y3, .int x1, .ref y2]) (h' := h) rfl ?_
      obtain ⟨y4, qy4, hf⟩ := gi_bind hf
      refine gi_EvAi rfl qy4 ?_
      obtain ⟨h5, qh5, hf⟩ := gi_bind hf
      refine gi_EvPi rfl qh5 ?_
      refine gi_EvN 2 (pc' := 12) (lv' := [some (.ref x0), some (.int (x1 + 1))]) (st' := []) (h' := h5) rfl ?_
      exact ih  _ _  _ _ hf
def f_X6_done (h : gi_H) (x0 : Nat) : Option (Int32 × gi_H) :=
  if gi_is h x0 6 = true then (f_X6_barOfMonths h x0).bind fun y1 => if 0 ≤ y1.1 then f_X6_done_12 gi_F y1.2 x0 0
  else some ((-5), y1.2) else none
set_option maxRecDepth 20000 in
set_option maxHeartbeats 2000000 in
theorem e_X6_done (h : gi_H) (x0 : Nat) (r : (Int32 × gi_H)) (hf : f_X6_done h x0 = some r) : gi_Ev M_X6_done 0 [some (.ref x0), none] [] h (some (.int r.1), r.2) := by
  unfold f_X6_done at hf
  refine gi_EvN 1 (pc' := 1) (lv' := [some (.ref x0), none]) (st' := [.ref x0]) (h' := h) rfl ?_
  by_cases c2 : gi_is h x0 6 = true
  rotate_left
  · rw [if_neg c2] at hf; cases hf
  rw [if_pos c2] at hf
  obtain ⟨y1, qy1, hf⟩ := gi_bind hf
  refine gi_EvCV rfl rfl c2 rfl rfl (e_X6_barOfMonths h _ _ qy1) ?_
  show gi_Ev M_X6_done 4 [some (.ref x0), none] [.int y1.1] y1.2 _
  refine gi_Ev_ge rfl (fun c3 => ?_) (fun c3 => ?_)
  · rw [if_pos c3] at hf
    refine gi_EvN 2 (pc' := 12) (lv' := [some (.ref x0), some (.int 0)]) (st' := []) (h' := y1.2) rfl ?_
    exact e_X6_done_12 gi_F y1.2 _ _ _ hf
  · rw [if_neg c3] at hf
    refine gi_EvN 1 (pc' := 9) (lv' := [some (.ref x0), none]) (st' := [.int (-5)]) (h' := y1.2) rfl ?_
    cases hf
    exact gi_EvR rfl rfl
/-! X6_behind AdmiralGuineaModel.behind(I)I -/
def f_X6_behind (h : gi_H) (x0 : Nat) (x1 : Int32) : Option (Int32 × gi_H) :=
  (f_X6_in x1 0 7).bind fun y1 => if y1 = 0 then some ((-2), h)
  else if gi_is h x0 6 = true then (f_X6_barOfMonths h x0).bind fun y3 => if 0 ≤ y3.1 then if 6 ≤ x1 then if x1 = 6 then (gi_fI y3.2 x0 6 6).bind fun y8 => some (y8, y3.2)
  else (gi_fI y3.2 x0 6 10).bind fun y9 => some (y9, y3.2)
  else (gi_fR y3.2 x0 6 1).bind fun y10 => (gi_ai y3.2 y10 0 (6 + x1)).bind fun y11 => some (y11, y3.2)
  else some ((-5), y3.2) else none
set_option maxRecDepth 20000 in
set_option maxHeartbeats 2000000 in
theorem e_X6_behind (h : gi_H) (x0 : Nat) (x1 : Int32) (r : (Int32 × gi_H)) (hf : f_X6_behind h x0 x1 = some r) : gi_Ev M_X6_behind 0 [some (.ref x0), some (.int x1)] [] h (some (.int r.1), r.2) := by
  unfold f_X6_behind at hf
  refine gi_EvN 3 (pc' := 4) (lv' := [some (.ref x0), some (.int x1)]) (st' := [.int 7, .int 0, .int x1]) (h' := h) rfl ?_
  obtain ⟨y1, qy1, hf⟩ := gi_bind hf
  refine gi_EvCS rfl rfl rfl rfl rfl (e_X6_in h _ _ _ _ qy1) ?_
  show gi_Ev M_X6_behind 7 [some (.ref x0), some (.int x1)] [.int y1] h _
  refine gi_Ev_ne rfl (fun c2 => ?_) (fun c2 => ?_)
  · rw [if_pos c2] at hf
    refine gi_EvN 1 (pc' := 12) (lv' := [some (.ref x0), some (.int x1)]) (st' := [.int (-2)]) (h' := h) rfl ?_
    cases hf
    exact gi_EvR rfl rfl
  · rw [if_neg c2] at hf
    refine gi_EvN 1 (pc' := 14) (lv' := [some (.ref x0), some (.int x1)]) (st' := [.ref x0]) (h' := h) rfl ?_
    by_cases c4 : gi_is h x0 6 = true
    rotate_left
    · rw [if_neg c4] at hf; cases hf
    rw [if_pos c4] at hf
    obtain ⟨y3, qy3, hf⟩ := gi_bind hf
    refine gi_EvCV rfl rfl c4 rfl rfl (e_X6_barOfMonths h _ _ qy3) ?_
    show gi_Ev M_X6_behind 17 [some (.ref x0), some (.int x1)] [.int y3.1] y3.2 _
    refine gi_Ev_ge rfl (fun c5 => ?_) (fun c5 => ?_)
    · rw [if_pos c5] at hf
      refine gi_EvN 2 (pc' := 26) (lv' := [some (.ref x0), some (.int x1)]) (st' := [.int 6, .int x1]) (h' := y3.2) rfl ?_
      refine gi_Ev_ige rfl (fun c6 => ?_) (fun c6 => ?_)
      · rw [if_pos c6] at hf
        refine gi_EvN 2 (pc' := 44) (lv' := [some (.ref x0), some (.int x1)]) (st' := [.int 6, .int x1]) (h' := y3.2) rfl ?_
        refine gi_Ev_ine rfl (fun c7 => ?_) (fun c7 => ?_)
        · rw [if_pos c7] at hf
          refine gi_EvN 1 (pc' := 48) (lv' := [some (.ref x0), some (.int x1)]) (st' := [.ref x0]) (h' := y3.2) rfl ?_
          obtain ⟨y8, qy8, hf⟩ := gi_bind hf
          refine gi_EvF rfl (gi_fI_inv qy8) ?_
          refine gi_EvN 1 (pc' := 58) (lv' := [some (.ref x0), some (.int x1)]) (st' := [.int y8]) (h' := y3.2) rfl ?_
          cases hf
          exact gi_EvR rfl rfl
        · rw [if_neg c7] at hf
          refine gi_EvN 1 (pc' := 55) (lv' := [some (.ref x0), some (.int x1)]) (st' := [.ref x0]) (h' := y3.2) rfl ?_
          obtain ⟨y9, qy9, hf⟩ := gi_bind hf
          refine gi_EvF rfl (gi_fI_inv qy9) ?_
          cases hf
          exact gi_EvR rfl rfl
      · rw [if_neg c6] at hf
        refine gi_EvN 1 (pc' := 30) (lv' := [some (.ref x0), some (.int x1)]) (st' := [.ref x0]) (h' := y3.2) rfl ?_
        obtain ⟨y10, qy10, hf⟩ := gi_bind hf
        refine gi_EvF rfl (gi_fR_inv qy10) ?_
        refine gi_EvN 3 (pc' := 37) (lv' := [some (.ref x0), some (.int x1)]) (st' := [.int (6 + x1), .ref y10]) (h' := y3.2) rfl ?_
        obtain ⟨y11, qy11, hf⟩ := gi_bind hf
        refine gi_EvAi rfl qy11 ?_
        refine gi_EvN 1 (pc' := 58) (lv' := [some (.ref x0), some (.int x1)]) (st' := [.int y11]) (h' := y3.2) rfl ?_
        cases hf
        exact gi_EvR rfl rfl
    · rw [if_neg c5] at hf
      refine gi_EvN 1 (pc' := 22) (lv' := [some (.ref x0), some (.int x1)]) (st' := [.int (-5)]) (h' := y3.2) rfl ?_
      cases hf
      exact gi_EvR rfl rfl
/-! X6_isPolicy AdmiralGuineaModel.isPolicy(I)Z -/
def f_X6_isPolicy (h : gi_H) (x0 : Nat) (x1 : Int32) : Option Int32 :=
  (f_X6_in x1 0 11).bind fun y1 => if y1 = 0 then some (0)
  else (gi_fR h x0 6 0).bind fun y3 => (gi_ai h y3 0 14).bind fun y4 => (f_X6_has y4 x1).bind fun y5 => if y5 = 0 then some (0)
  else some (1)
set_option maxRecDepth 20000 in
set_option maxHeartbeats 2000000 in
theorem e_X6_isPolicy (h : gi_H) (x0 : Nat) (x1 : Int32) (r : Int32) (hf : f_X6_isPolicy h x0 x1 = some r) : gi_Ev M_X6_isPolicy 0 [some (.ref x0), some (.int x1)] [] h (some (.int r), h) := by
  unfold f_X6_isPolicy at hf
  refine gi_EvN 3 (pc' := 4) (lv' := [some (.ref x0), some (.int x1)]) (st' := [.int 11, .int 0, .int x1]) (h' := h) rfl ?_
  obtain ⟨y1, qy1, hf⟩ := gi_bind hf
  refine gi_EvCS rfl rfl rfl rfl rfl (e_X6_in h _ _ _ _ qy1) ?_
  show gi_Ev M_X6_isPolicy 7 [some (.ref x0), some (.int x1)] [.int y1] h _
  refine gi_Ev_eq rfl (fun c2 => ?_) (fun c2 => ?_)
  · rw [if_pos c2] at hf
    refine gi_EvN 1 (pc' := 29) (lv' := [some (.ref x0), some (.int x1)]) (st' := [.int 0]) (h' := h) rfl ?_
    cases hf
    exact gi_EvR rfl rfl
  · rw [if_neg c2] at hf
    refine gi_EvN 1 (pc' := 11) (lv' := [some (.ref x0), some (.int x1)]) (st' := [.ref x0]) (h' := h) rfl ?_
    obtain ⟨y3, qy3, hf⟩ := gi_bind hf
    refine gi_EvF rfl (gi_fR_inv qy3) ?_
    refine gi_EvN 1 (pc' := 16) (lv' := [some (.ref x0), some (.int x1)]) (st' := [.int 14, .ref y3]) (h' := h) rfl ?_
    obtain ⟨y4, qy4, hf⟩ := gi_bind hf
    refine gi_EvAi rfl qy4 ?_
    refine gi_EvN 1 (pc' := 18) (lv' := [some (.ref x0), some (.int x1)]) (st' := [.int x1, .int y4]) (h' := h) rfl ?_
    obtain ⟨y5, qy5, hf⟩ := gi_bind hf
    refine gi_EvCS rfl rfl rfl rfl rfl (e_X6_has h _ _ _ qy5) ?_
    show gi_Ev M_X6_isPolicy 21 [some (.ref x0), some (.int x1)] [.int y5] h _
    refine gi_Ev_eq rfl (fun c6 => ?_) (fun c6 => ?_)
    · rw [if_pos c6] at hf
      refine gi_EvN 1 (pc' := 29) (lv' := [some (.ref x0), some (.int x1)]) (st' := [.int 0]) (h' := h) rfl ?_
      cases hf
      exact gi_EvR rfl rfl
    · rw [if_neg c6] at hf
      refine gi_EvN 2 (pc' := 29) (lv' := [some (.ref x0), some (.int x1)]) (st' := [.int 1]) (h' := h) rfl ?_
      cases hf
      exact gi_EvR rfl rfl
/-! X6_policy AdmiralGuineaModel.policy(II)I -/
def f_X6_policy (h : gi_H) (x0 : Nat) (x1 : Int32) (x2 : Int32) : Option Int32 :=
  if gi_is h x0 6 = true then (f_X6_isPolicy h x0 x1).bind fun y1 => if y1 = 0 then some ((-1))
  else (f_X6_in x2 0 3).bind fun y4 => if y4 = 0 then some ((-2))
  else (gi_fR h x0 6 0).bind fun y6 => (gi_ai h y6 0 ((15 + (4 * x1)) + x2)).bind fun y7 => some (y7) else none
set_option maxRecDepth 20000 in
set_option maxHeartbeats 2000000 in
theorem e_X6_policy (h : gi_H) (x0 : Nat) (x1 : Int32) (x2 : Int32) (r : Int32) (hf : f_X6_policy h x0 x1 x2 = some r) : gi_Ev M_X6_policy 0 [some (.ref x0), some (.int x1), some (.int x2)] [] h (some (.int r), h) := by
  unfold f_X6_policy at hf
  refine gi_EvN 2 (pc' := 2) (lv' := [some (.ref x0), some (.int x1), some (.int x2)]) (st' := [.int x1, .ref x0]) (h' := h) rfl ?_
  by_cases c2 : gi_is h x0 6 = true
  rotate_left
  · rw [if_neg c2] at hf; cases hf
  rw [if_pos c2] at hf
  obtain ⟨y1, qy1, hf⟩ := gi_bind hf
  refine gi_EvCV rfl rfl c2 rfl rfl (e_X6_isPolicy h _ _ _ qy1) ?_
  show gi_Ev M_X6_policy 5 [some (.ref x0), some (.int x1), some (.int x2)] [.int y1] h _
  refine gi_Ev_ne rfl (fun c3 => ?_) (fun c3 => ?_)
  · rw [if_pos c3] at hf
    refine gi_EvN 1 (pc' := 9) (lv' := [some (.ref x0), some (.int x1), some (.int x2)]) (st' := [.int (-1)]) (h' := h) rfl ?_
    cases hf
    exact gi_EvR rfl rfl
  · rw [if_neg c3] at hf
    refine gi_EvN 3 (pc' := 13) (lv' := [some (.ref x0), some (.int x1), some (.int x2)]) (st' := [.int 3, .int 0, .int x2]) (h' := h) rfl ?_
    obtain ⟨y4, qy4, hf⟩ := gi_bind hf
    refine gi_EvCS rfl rfl rfl rfl rfl (e_X6_in h _ _ _ _ qy4) ?_
    show gi_Ev M_X6_policy 16 [some (.ref x0), some (.int x1), some (.int x2)] [.int y4] h _
    refine gi_Ev_eq rfl (fun c5 => ?_) (fun c5 => ?_)
    · rw [if_pos c5] at hf
      refine gi_EvN 1 (pc' := 37) (lv' := [some (.ref x0), some (.int x1), some (.int x2)]) (st' := [.int (-2)]) (h' := h) rfl ?_
      cases hf
      exact gi_EvR rfl rfl
    · rw [if_neg c5] at hf
      refine gi_EvN 1 (pc' := 20) (lv' := [some (.ref x0), some (.int x1), some (.int x2)]) (st' := [.ref x0]) (h' := h) rfl ?_
      obtain ⟨y6, qy6, hf⟩ := gi_bind hf
      refine gi_EvF rfl (gi_fR_inv qy6) ?_
      refine gi_EvN 7 (pc' := 31) (lv' := [some (.ref x0), some (.int x1), some (.int x2)]) (st' := [.int ((15 + (4 * x1)) + x2), .ref y6]) (h' := h) rfl ?_
      obtain ⟨y7, qy7, hf⟩ := gi_bind hf
      refine gi_EvAi rfl qy7 ?_
      refine gi_EvN 1 (pc' := 37) (lv' := [some (.ref x0), some (.int x1), some (.int x2)]) (st' := [.int y7]) (h' := h) rfl ?_
      cases hf
      exact gi_EvR rfl rfl
/-! X6_price AdmiralGuineaModel.price(III)I -/
def f_X6_price (h : gi_H) (x0 : Nat) (x1 : Int32) (x2 : Int32) (x3 : Int32) : Option Int32 :=
  (f_X6_isLife x1).bind fun y1 => if y1 = 0 then some ((-1))
  else (f_X6_in x2 1 9).bind fun y3 => if y3 = 0 then some ((-2))
  else (f_X6_in x3 1 9).bind fun y5 => if y5 = 0 then some ((-2))
  else (gi_fR h x0 6 0).bind fun y7 => (gi_ai h y7 0 12).bind fun y8 => (f_X6_has y8 x1).bind fun y9 => if y9 = 0 then (gi_fR h x0 6 0).bind fun y11 => (gi_ai h y11 0 x1).bind fun y12 => (f_X6_priceOf (10 * x2) y12 x3).bind fun y13 => some (y13)
  else some ((-3))
set_option maxRecDepth 20000 in
set_option maxHeartbeats 2000000 in
theorem e_X6_price (h : gi_H) (x0 : Nat) (x1 : Int32) (x2 : Int32) (x3 : Int32) (r : Int32) (hf : f_X6_price h x0 x1 x2 x3 = some r) : gi_Ev M_X6_price 0 [some (.ref x0), some (.int x1), some (.int x2), some (.int x3)] [] h (some (.int r), h) := by
  unfold f_X6_price at hf
  refine gi_EvN 1 (pc' := 1) (lv' := [some (.ref x0), some (.int x1), some (.int x2), some (.int x3)]) (st' := [.int x1]) (h' := h) rfl ?_
  obtain ⟨y1, qy1, hf⟩ := gi_bind hf
  refine gi_EvCS rfl rfl rfl rfl rfl (e_X6_isLife h _ _ qy1) ?_
  show gi_Ev M_X6_price 4 [some (.ref x0), some (.int x1), some (.int x2), some (.int x3)] [.int y1] h _
  refine gi_Ev_ne rfl (fun c2 => ?_) (fun c2 => ?_)
  · rw [if_pos c2] at hf
    refine gi_EvN 1 (pc' := 8) (lv' := [some (.ref x0), some (.int x1), some (.int x2), some (.int x3)]) (st' := [.int (-1)]) (h' := h) rfl ?_
    cases hf
    exact gi_EvR rfl rfl
  · rw [if_neg c2] at hf
    refine gi_EvN 3 (pc' := 13) (lv' := [some (.ref x0), some (.int x1), some (.int x2), some (.int x3)]) (st' := [.int 9, .int 1, .int x2]) (h' := h) rfl ?_
    obtain ⟨y3, qy3, hf⟩ := gi_bind hf
    refine gi_EvCS rfl rfl rfl rfl rfl (e_X6_in h _ _ _ _ qy3) ?_
    show gi_Ev M_X6_price 16 [some (.ref x0), some (.int x1), some (.int x2), some (.int x3)] [.int y3] h _
    refine gi_Ev_eq rfl (fun c4 => ?_) (fun c4 => ?_)
    · rw [if_pos c4] at hf
      refine gi_EvN 1 (pc' := 31) (lv' := [some (.ref x0), some (.int x1), some (.int x2), some (.int x3)]) (st' := [.int (-2)]) (h' := h) rfl ?_
      cases hf
      exact gi_EvR rfl rfl
    · rw [if_neg c4] at hf
      refine gi_EvN 3 (pc' := 23) (lv' := [some (.ref x0), some (.int x1), some (.int x2), some (.int x3)]) (st' := [.int 9, .int 1, .int x3]) (h' := h) rfl ?_
      obtain ⟨y5, qy5, hf⟩ := gi_bind hf
      refine gi_EvCS rfl rfl rfl rfl rfl (e_X6_in h _ _ _ _ qy5) ?_
      show gi_Ev M_X6_price 26 [some (.ref x0), some (.int x1), some (.int x2), some (.int x3)] [.int y5] h _
      refine gi_Ev_ne rfl (fun c6 => ?_) (fun c6 => ?_)
      · rw [if_pos c6] at hf
        refine gi_EvN 1 (pc' := 31) (lv' := [some (.ref x0), some (.int x1), some (.int x2), some (.int x3)]) (st' := [.int (-2)]) (h' := h) rfl ?_
        cases hf
        exact gi_EvR rfl rfl
      · rw [if_neg c6] at hf
        refine gi_EvN 1 (pc' := 33) (lv' := [some (.ref x0), some (.int x1), some (.int x2), some (.int x3)]) (st' := [.ref x0]) (h' := h) rfl ?_
        obtain ⟨y7, qy7, hf⟩ := gi_bind hf
        refine gi_EvF rfl (gi_fR_inv qy7) ?_
        refine gi_EvN 1 (pc' := 38) (lv' := [some (.ref x0), some (.int x1), some (.int x2), some (.int x3)]) (st' := [.int 12, .ref y7]) (h' := h) rfl ?_
        obtain ⟨y8, qy8, hf⟩ := gi_bind hf
        refine gi_EvAi rfl qy8 ?_
        refine gi_EvN 1 (pc' := 40) (lv' := [some (.ref x0), some (.int x1), some (.int x2), some (.int x3)]) (st' := [.int x1, .int y8]) (h' := h) rfl ?_
        obtain ⟨y9, qy9, hf⟩ := gi_bind hf
        refine gi_EvCS rfl rfl rfl rfl rfl (e_X6_has h _ _ _ qy9) ?_
        show gi_Ev M_X6_price 43 [some (.ref x0), some (.int x1), some (.int x2), some (.int x3)] [.int y9] h _
        refine gi_Ev_eq rfl (fun c10 => ?_) (fun c10 => ?_)
        · rw [if_pos c10] at hf
          refine gi_EvN 4 (pc' := 56) (lv' := [some (.ref x0), some (.int x1), some (.int x2), some (.int x3)]) (st' := [.ref x0, .int (10 * x2)]) (h' := h) rfl ?_
          obtain ⟨y11, qy11, hf⟩ := gi_bind hf
          refine gi_EvF rfl (gi_fR_inv qy11) ?_
          refine gi_EvN 1 (pc' := 60) (lv' := [some (.ref x0), some (.int x1), some (.int x2), some (.int x3)]) (st' := [.int x1, .ref y11, .int (10 * x2)]) (h' := h) rfl ?_
          obtain ⟨y12, qy12, hf⟩ := gi_bind hf
          refine gi_EvAi rfl qy12 ?_
          refine gi_EvN 1 (pc' := 62) (lv' := [some (.ref x0), some (.int x1), some (.int x2), some (.int x3)]) (st' := [.int x3, .int y12, .int (10 * x2)]) (h' := h) rfl ?_
          obtain ⟨y13, qy13, hf⟩ := gi_bind hf
          refine gi_EvCS rfl rfl rfl rfl rfl (e_X6_priceOf h _ _ _ _ qy13) ?_
          show gi_Ev M_X6_price 65 [some (.ref x0), some (.int x1), some (.int x2), some (.int x3)] [.int y13] h _
          cases hf
          exact gi_EvR rfl rfl
        · rw [if_neg c10] at hf
          refine gi_EvN 2 (pc' := 65) (lv' := [some (.ref x0), some (.int x1), some (.int x2), some (.int x3)]) (st' := [.int (-3)]) (h' := h) rfl ?_
          cases hf
          exact gi_EvR rfl rfl
/-! X6_part AdmiralGuineaModel.part(JJI)J -/
def f_X6_part_42 (x0 : Int64) (x2 : Int64) (x4 : Int32) (x5 : Int64) : Option Int64 :=
  if x4 = 0 then if x5 = 0 then none else some ((x0 / x5))
  else if x5 = 0 then none else some ((x2 / x5))
set_option maxRecDepth 20000 in
set_option maxHeartbeats 2000000 in
theorem e_X6_part_42 (h : gi_H) (g1 : Option Value) (g3 : Option Value) (g6 : Option Value) (g7 : Option Value) (g8 : Option Value) (g9 : Option Value) (g10 : Option Value) (x0 : Int64) (x2 : Int64) (x4 : Int32) (x5 : Int64) (r : Int64) (hf : f_X6_part_42 x0 x2 x4 x5 = some r) : gi_Ev M_X6_part 42 [some (.long x0), g1, some (.long x2), g3, some (.int x4), some (.long x5), g6, g7, g8, g9, g10] [] h (some (.long r), h) := by
  unfold f_X6_part_42 at hf
  refine gi_EvN 1 (pc' := 44) (lv' := [some (.long x0), g1, some (.long x2), g3, some (.int x4), some (.long x5), g6, g7, g8, g9, g10]) (st' := [.int x4]) (h' := h) rfl ?_
  refine gi_Ev_ne rfl (fun c1 => ?_) (fun c1 => ?_)
  · rw [if_pos c1] at hf
    refine gi_EvN 2 (pc' := 50) (lv' := [some (.long x0), g1, some (.long x2), g3, some (.int x4), some (.long x5), g6, g7, g8, g9, g10]) (st' := [.long x5, .long x0]) (h' := h) rfl ?_
    by_cases c2 : x5 = 0
    · rw [if_pos c2] at hf; cases hf
    rw [if_neg c2] at hf
    refine gi_EvDl rfl c2 ?_
    refine gi_EvN 1 (pc' := 58) (lv' := [some (.long x0), g1, some (.long x2), g3, some (.int x4), some (.long x5), g6, g7, g8, g9, g10]) (st' := [.long (x0 / x5)]) (h' := h) rfl ?_
    cases hf
    exact gi_EvR rfl rfl
  · rw [if_neg c1] at hf
    refine gi_EvN 2 (pc' := 57) (lv' := [some (.long x0), g1, some (.long x2), g3, some (.int x4), some (.long x5), g6, g7, g8, g9, g10]) (st' := [.long x5, .long x2]) (h' := h) rfl ?_
    by_cases c3 : x5 = 0
    · rw [if_pos c3] at hf; cases hf
    rw [if_neg c3] at hf
    refine gi_EvDl rfl c3 ?_
    cases hf
    exact gi_EvR rfl rfl
def f_X6_part_17 : Nat → Int64 → Int64 → Int32 → Int64 → Int64 → Option Int64
  | 0, _, _, _, _, _ => none
  | n + 1, x0, x2, x4, x5, x7 => if (lg_cmp x7 0) = 0 then f_X6_part_42 x0 x2 x4 x5
  else if x7 = 0 then none else f_X6_part_17 n x0 x2 x4 x7 (x5 - x5 / x7 * x7)
set_option maxRecDepth 20000 in
set_option maxHeartbeats 2000000 in
theorem e_X6_part_17 (h : gi_H) : ∀ (n : Nat) (g1 : Option Value) (g3 : Option Value) (g6 : Option Value) (g8 : Option Value) (g9 : Option Value) (g10 : Option Value) (x0 : Int64) (x2 : Int64) (x4 : Int32) (x5 : Int64) (x7 : Int64) (r : Int64), f_X6_part_17 n x0 x2 x4 x5 x7 = some r → gi_Ev M_X6_part 17 [some (.long x0), g1, some (.long x2), g3, some (.int x4), some (.long x5), g6, some (.long x7), g8, g9, g10] [] h (some (.long r), h) := by
  intro n
  induction n with
  | zero =>
    intro g1 g3 g6 g8 g9 g10 x0 x2 x4 x5 x7 r hf
    unfold f_X6_part_17 at hf
    cases hf
  | succ n ih =>
    intro g1 g3 g6 g8 g9 g10 x0 x2 x4 x5 x7 r hf
    unfold f_X6_part_17 at hf
    refine gi_EvN 3 (pc' := 21) (lv' := [some (.long x0), g1, some (.long x2), g3, some (.int x4), some (.long x5), g6, some (.long x7), g8, g9, g10]) (st' := [.int (lg_cmp x7 0)]) (h' := h) rfl ?_
    refine gi_Ev_eq rfl (fun c1 => ?_) (fun c1 => ?_)
    · rw [if_pos c1] at hf
      exact e_X6_part_42 h _ _ _ _ _ _ _ _ _ _ _ _ hf
    · rw [if_neg c1] at hf
      refine gi_EvN 2 (pc' := 28) (lv' := [some (.long x0), g1, some (.long x2), g3, some (.int x4), some (.long x5), g6, some (.long x7), g8, g9, g10]) (st' := [.long x7, .long x5]) (h' := h) rfl ?_
      by_cases c2 : x7 = 0
      · rw [if_pos c2] at hf; cases hf
      rw [if_neg c2] at hf
      refine gi_EvRl rfl c2 ?_
      refine gi_EvN 6 (pc' := 17) (lv' := [some (.long x0), g1, some (.long x2), g3, some (.int x4), some (.long x7), none, some (.long (x5 - x5 / x7 * x7)), none, some (.long (x5 - x5 / x7 * x7)), none]) (st' := []) (h' := h) rfl ?_
      exact ih _ _ _ _ _ _  _  _  _  _  _ _ hf
def f_X6_part_12 (x0 : Int64) (x2 : Int64) (x4 : Int32) (t0 : Int64) : Option Int64 :=
  f_X6_part_17 gi_F x0 x2 x4 t0 x2
set_option maxRecDepth 20000 in
set_option maxHeartbeats 2000000 in
theorem e_X6_part_12 (h : gi_H) (g1 : Option Value) (g3 : Option Value) (g5 : Option Value) (g6 : Option Value) (g7 : Option Value) (g8 : Option Value) (g9 : Option Value) (g10 : Option Value) (x0 : Int64) (x2 : Int64) (x4 : Int32) (t0 : Int64) (r : Int64) (hf : f_X6_part_12 x0 x2 x4 t0 = some r) : gi_Ev M_X6_part 12 [some (.long x0), g1, some (.long x2), g3, some (.int x4), g5, g6, g7, g8, g9, g10] [.long t0] h (some (.long r), h) := by
  unfold f_X6_part_12 at hf
  refine gi_EvN 3 (pc' := 17) (lv' := [some (.long x0), g1, some (.long x2), g3, some (.int x4), some (.long t0), none, some (.long x2), none, g9, g10]) (st' := []) (h' := h) rfl ?_
  exact e_X6_part_17 h gi_F _ _ _ _ _ _ _ _ _ _ _ _ hf
def f_X6_part (x0 : Int64) (x2 : Int64) (x4 : Int32) : Option Int64 :=
  if 0 ≤ (lg_cmp x0 0) then f_X6_part_12 x0 x2 x4 x0
  else f_X6_part_12 x0 x2 x4 (-x0)
set_option maxRecDepth 20000 in
set_option maxHeartbeats 2000000 in
theorem e_X6_part (h : gi_H) (x0 : Int64) (x2 : Int64) (x4 : Int32) (r : Int64) (hf : f_X6_part x0 x2 x4 = some r) : gi_Ev M_X6_part 0 [some (.long x0), none, some (.long x2), none, some (.int x4), none, none, none, none, none, none] [] h (some (.long r), h) := by
  unfold f_X6_part at hf
  refine gi_EvN 3 (pc' := 3) (lv' := [some (.long x0), none, some (.long x2), none, some (.int x4), none, none, none, none, none, none]) (st' := [.int (lg_cmp x0 0)]) (h' := h) rfl ?_
  refine gi_Ev_ge rfl (fun c1 => ?_) (fun c1 => ?_)
  · rw [if_pos c1] at hf
    refine gi_EvN 1 (pc' := 12) (lv' := [some (.long x0), none, some (.long x2), none, some (.int x4), none, none, none, none, none, none]) (st' := [.long x0]) (h' := h) rfl ?_
    exact e_X6_part_12 h _ _ _ _ _ _ _ _ _ _ _ _ _ hf
  · rw [if_neg c1] at hf
    refine gi_EvN 3 (pc' := 12) (lv' := [some (.long x0), none, some (.long x2), none, some (.int x4), none, none, none, none, none, none]) (st' := [.long (-x0)]) (h' := h) rfl ?_
    exact e_X6_part_12 h _ _ _ _ _ _ _ _ _ _ _ _ _ hf
/-! X6_chance AdmiralGuineaModel.chance(III)J -/
def f_X6_chance (h : gi_H) (x0 : Nat) (x1 : Int32) (x2 : Int32) (x3 : Int32) : Option Int64 :=
  (f_X6_isLife x1).bind fun y1 => if y1 = 0 then some ((-1000000000000000001))
  else (f_X6_in x2 0 9).bind fun y3 => if y3 = 0 then some ((-1000000000000000002))
  else (f_X6_in x3 0 1).bind fun y5 => if y5 = 0 then some ((-1000000000000000002))
  else (gi_fR h x0 6 0).bind fun y7 => (gi_ai h y7 0 12).bind fun y8 => (f_X6_has y8 x1).bind fun y9 => if y9 = 0 then (f_X6_power 10 x2).bind fun y11 => (gi_fR h x0 6 0).bind fun y12 => (gi_ai h y12 0 x1).bind fun y13 => (f_X6_power (10 - (Int32.toInt64 y13)) x2).bind fun y14 => (f_X6_power 10 x2).bind fun y15 => (f_X6_part (y11 - y14) y15 x3).bind fun y16 => some (y16)
  else some ((-1000000000000000003))
set_option maxRecDepth 20000 in
set_option maxHeartbeats 2000000 in
theorem e_X6_chance (h : gi_H) (x0 : Nat) (x1 : Int32) (x2 : Int32) (x3 : Int32) (r : Int64) (hf : f_X6_chance h x0 x1 x2 x3 = some r) : gi_Ev M_X6_chance 0 [some (.ref x0), some (.int x1), some (.int x2), some (.int x3)] [] h (some (.long r), h) := by
  unfold f_X6_chance at hf
  refine gi_EvN 1 (pc' := 1) (lv' := [some (.ref x0), some (.int x1), some (.int x2), some (.int x3)]) (st' := [.int x1]) (h' := h) rfl ?_
  obtain ⟨y1, qy1, hf⟩ := gi_bind hf
  refine gi_EvCS rfl rfl rfl rfl rfl (e_X6_isLife h _ _ qy1) ?_
  show gi_Ev M_X6_chance 4 [some (.ref x0), some (.int x1), some (.int x2), some (.int x3)] [.int y1] h _
  refine gi_Ev_ne rfl (fun c2 => ?_) (fun c2 => ?_)
  · rw [if_pos c2] at hf
    refine gi_EvN 1 (pc' := 10) (lv' := [some (.ref x0), some (.int x1), some (.int x2), some (.int x3)]) (st' := [.long (-1000000000000000001)]) (h' := h) rfl ?_
    cases hf
    exact gi_EvR rfl rfl
  · rw [if_neg c2] at hf
    refine gi_EvN 3 (pc' := 15) (lv' := [some (.ref x0), some (.int x1), some (.int x2), some (.int x3)]) (st' := [.int 9, .int 0, .int x2]) (h' := h) rfl ?_
    obtain ⟨y3, qy3, hf⟩ := gi_bind hf
    refine gi_EvCS rfl rfl rfl rfl rfl (e_X6_in h _ _ _ _ qy3) ?_
    show gi_Ev M_X6_chance 18 [some (.ref x0), some (.int x1), some (.int x2), some (.int x3)] [.int y3] h _
    refine gi_Ev_eq rfl (fun c4 => ?_) (fun c4 => ?_)
    · rw [if_pos c4] at hf
      refine gi_EvN 1 (pc' := 33) (lv' := [some (.ref x0), some (.int x1), some (.int x2), some (.int x3)]) (st' := [.long (-1000000000000000002)]) (h' := h) rfl ?_
      cases hf
      exact gi_EvR rfl rfl
    · rw [if_neg c4] at hf
      refine gi_EvN 3 (pc' := 24) (lv' := [some (.ref x0), some (.int x1), some (.int x2), some (.int x3)]) (st' := [.int 1, .int 0, .int x3]) (h' := h) rfl ?_
      obtain ⟨y5, qy5, hf⟩ := gi_bind hf
      refine gi_EvCS rfl rfl rfl rfl rfl (e_X6_in h _ _ _ _ qy5) ?_
      show gi_Ev M_X6_chance 27 [some (.ref x0), some (.int x1), some (.int x2), some (.int x3)] [.int y5] h _
      refine gi_Ev_ne rfl (fun c6 => ?_) (fun c6 => ?_)
      · rw [if_pos c6] at hf
        refine gi_EvN 1 (pc' := 33) (lv' := [some (.ref x0), some (.int x1), some (.int x2), some (.int x3)]) (st' := [.long (-1000000000000000002)]) (h' := h) rfl ?_
        cases hf
        exact gi_EvR rfl rfl
      · rw [if_neg c6] at hf
        refine gi_EvN 1 (pc' := 35) (lv' := [some (.ref x0), some (.int x1), some (.int x2), some (.int x3)]) (st' := [.ref x0]) (h' := h) rfl ?_
        obtain ⟨y7, qy7, hf⟩ := gi_bind hf
        refine gi_EvF rfl (gi_fR_inv qy7) ?_
        refine gi_EvN 1 (pc' := 40) (lv' := [some (.ref x0), some (.int x1), some (.int x2), some (.int x3)]) (st' := [.int 12, .ref y7]) (h' := h) rfl ?_
        obtain ⟨y8, qy8, hf⟩ := gi_bind hf
        refine gi_EvAi rfl qy8 ?_
        refine gi_EvN 1 (pc' := 42) (lv' := [some (.ref x0), some (.int x1), some (.int x2), some (.int x3)]) (st' := [.int x1, .int y8]) (h' := h) rfl ?_
        obtain ⟨y9, qy9, hf⟩ := gi_bind hf
        refine gi_EvCS rfl rfl rfl rfl rfl (e_X6_has h _ _ _ qy9) ?_
        show gi_Ev M_X6_chance 45 [some (.ref x0), some (.int x1), some (.int x2), some (.int x3)] [.int y9] h _
        refine gi_Ev_eq rfl (fun c10 => ?_) (fun c10 => ?_)
        · rw [if_pos c10] at hf
          refine gi_EvN 2 (pc' := 56) (lv' := [some (.ref x0), some (.int x1), some (.int x2), some (.int x3)]) (st' := [.int x2, .long 10]) (h' := h) rfl ?_
          obtain ⟨y11, qy11, hf⟩ := gi_bind hf
          refine gi_EvCS rfl rfl rfl rfl rfl (e_X6_power h _ _ _ qy11) ?_
          show gi_Ev M_X6_chance 59 [some (.ref x0), some (.int x1), some (.int x2), some (.int x3)] [.long y11] h _
          refine gi_EvN 2 (pc' := 63) (lv' := [some (.ref x0), some (.int x1), some (.int x2), some (.int x3)]) (st' := [.ref x0, .long 10, .long y11]) (h' := h) rfl ?_
          obtain ⟨y12, qy12, hf⟩ := gi_bind hf
          refine gi_EvF rfl (gi_fR_inv qy12) ?_
          refine gi_EvN 1 (pc' := 67) (lv' := [some (.ref x0), some (.int x1), some (.int x2), some (.int x3)]) (st' := [.int x1, .ref y12, .long 10, .long y11]) (h' := h) rfl ?_
          obtain ⟨y13, qy13, hf⟩ := gi_bind hf
          refine gi_EvAi rfl qy13 ?_
          refine gi_EvN 3 (pc' := 71) (lv' := [some (.ref x0), some (.int x1), some (.int x2), some (.int x3)]) (st' := [.int x2, .long (10 - (Int32.toInt64 y13)), .long y11]) (h' := h) rfl ?_
          obtain ⟨y14, qy14, hf⟩ := gi_bind hf
          refine gi_EvCS rfl rfl rfl rfl rfl (e_X6_power h _ _ _ qy14) ?_
          show gi_Ev M_X6_chance 74 [some (.ref x0), some (.int x1), some (.int x2), some (.int x3)] [.long y14, .long y11] h _
          refine gi_EvN 3 (pc' := 79) (lv' := [some (.ref x0), some (.int x1), some (.int x2), some (.int x3)]) (st' := [.int x2, .long 10, .long (y11 - y14)]) (h' := h) rfl ?_
          obtain ⟨y15, qy15, hf⟩ := gi_bind hf
          refine gi_EvCS rfl rfl rfl rfl rfl (e_X6_power h _ _ _ qy15) ?_
          show gi_Ev M_X6_chance 82 [some (.ref x0), some (.int x1), some (.int x2), some (.int x3)] [.long y15, .long (y11 - y14)] h _
          refine gi_EvN 1 (pc' := 83) (lv' := [some (.ref x0), some (.int x1), some (.int x2), some (.int x3)]) (st' := [.int x3, .long y15, .long (y11 - y14)]) (h' := h) rfl ?_
          obtain ⟨y16, qy16, hf⟩ := gi_bind hf
          refine gi_EvCS rfl rfl rfl rfl rfl (e_X6_part h _ _ _ _ qy16) ?_
          show gi_Ev M_X6_chance 86 [some (.ref x0), some (.int x1), some (.int x2), some (.int x3)] [.long y16] h _
          cases hf
          exact gi_EvR rfl rfl
        · rw [if_neg c10] at hf
          refine gi_EvN 1 (pc' := 51) (lv' := [some (.ref x0), some (.int x1), some (.int x2), some (.int x3)]) (st' := [.long (-1000000000000000003)]) (h' := h) rfl ?_
          cases hf
          exact gi_EvR rfl rfl
