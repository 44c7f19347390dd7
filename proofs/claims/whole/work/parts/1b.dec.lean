/-! X2_init AdmiralGuinea$Offers.<init>()V -/
def f_X2_init (h : gi_H) (x0 : Nat) : Option gi_H :=
  (gi_new h (gi_na 0 6)).bind fun h1 => (gi_fp h1 x0 2 0 (.ref (List.length h))).bind fun h2 => (gi_new h2 (gi_na 1 6)).bind fun h3 => (gi_fp h3 x0 2 1 (.ref (List.length h2))).bind fun h4 => some h4
set_option maxRecDepth 20000 in
set_option maxHeartbeats 2000000 in
theorem e_X2_init (h : gi_H) (x0 : Nat) (r : gi_H) (hf : f_X2_init h x0 = some r) : gi_Ev M_X2_init 0 [some (.ref x0)] [] h (none, r) := by
  unfold f_X2_init at hf
  refine gi_EvN 4 (pc' := 7) (lv' := [some (.ref x0)]) (st' := [.int 6, .ref x0]) (h' := h) rfl ?_
  obtain ⟨h1, qh1, hf⟩ := gi_bind hf
  refine gi_EvNwa (N := 6) rfl (by decide) (by decide) (by decide) qh1 ?_
  obtain ⟨h2, qh2, hf⟩ := gi_bind hf
  refine gi_EvFp rfl rfl qh2 ?_
  refine gi_EvN 2 (pc' := 15) (lv' := [some (.ref x0)]) (st' := [.int 6, .ref x0]) (h' := h2) rfl ?_
  obtain ⟨h3, qh3, hf⟩ := gi_bind hf
  refine gi_EvNwa (N := 6) rfl (by decide) (by decide) (by decide) qh3 ?_
  obtain ⟨h4, qh4, hf⟩ := gi_bind hf
  refine gi_EvFp rfl rfl qh4 ?_
  cases hf
  exact gi_EvR rfl rfl
/-! X5_digitOf AdmiralGuinea.digitOf(III)I -/
def f_X5_digitOf_24 (x3 : Int32) : Option Int32 :=
  some ((x3 - x3 / 10 * 10))
set_option maxRecDepth 20000 in
set_option maxHeartbeats 2000000 in
theorem e_X5_digitOf_24 (h : gi_H) (g0 : Option Value) (g1 : Option Value) (g2 : Option Value) (g4 : Option Value) (x3 : Int32) (r : Int32) (hf : f_X5_digitOf_24 x3 = some r) : gi_Ev M_X5_digitOf 24 [g0, g1, g2, some (.int x3), g4] [] h (some (.int r), h) := by
  unfold f_X5_digitOf_24 at hf
  refine gi_EvN 2 (pc' := 27) (lv' := [g0, g1, g2, some (.int x3), g4]) (st' := [.int 10, .int x3]) (h' := h) rfl ?_
  refine gi_EvRi rfl (by decide) ?_
  cases hf
  exact gi_EvR rfl rfl
def f_X5_digitOf_7 : Nat → Int32 → Int32 → Int32 → Option Int32
  | 0, _, _, _ => none
  | n + 1, x2, x3, x4 => if x4 ≤ x2 then f_X5_digitOf_24 x3
  else f_X5_digitOf_7 n x2 (x3 / 10) (x4 + (-1))
set_option maxRecDepth 20000 in
set_option maxHeartbeats 2000000 in
theorem e_X5_digitOf_7 (h : gi_H) : ∀ (n : Nat) (g0 : Option Value) (g1 : Option Value) (x2 : Int32) (x3 : Int32) (x4 : Int32) (r : Int32), f_X5_digitOf_7 n x2 x3 x4 = some r → gi_Ev M_X5_digitOf 7 [g0, g1, some (.int x2), some (.int x3), some (.int x4)] [] h (some (.int r), h) := by
  intro n
  induction n with
  | zero =>
    intro g0 g1 x2 x3 x4 r hf
    unfold f_X5_digitOf_7 at hf
    cases hf
  | succ n ih =>
    intro g0 g1 x2 x3 x4 r hf
    unfold f_X5_digitOf_7 at hf
    refine gi_EvN 2 (pc' := 10) (lv' := [g0, g1, some (.int x2), some (.int x3), some (.int x4)]) (st' := [.int x2, .int x4]) (h' := h) rfl ?_
    refine gi_Ev_ile rfl (fun c1 => ?_) (fun c1 => ?_)
    · rw [if_pos c1] at hf
      exact e_X5_digitOf_24 h _ _ _ _ _ _ hf
    · rw [if_neg c1] at hf
      refine gi_EvN 2 (pc' := 16) (lv' := [g0, g1, some (.int x2), some (.int x3), some (.int x4)]) (st' := [.int 10, .int x3]) (h' := h) rfl ?_
      refine gi_EvDi rfl (by decide) ?_
      refine gi_EvN 3 (pc' := 7) (lv' := [g0, g1, some (.int x2), some (.int (x3 / 10)), some (.int (x4 + (-1)))]) (st' := []) (h' := h) rfl ?_
      exact ih _ _  _  _  _ _ hf
def f_X5_digitOf (x0 : Int32) (x1 : Int32) (x2 : Int32) : Option Int32 :=
  f_X5_digitOf_7 gi_F x2 x0 (x1 - 1)
set_option maxRecDepth 20000 in
set_option maxHeartbeats 2000000 in
theorem e_X5_digitOf (h : gi_H) (x0 : Int32) (x1 : Int32) (x2 : Int32) (r : Int32) (hf : f_X5_digitOf x0 x1 x2 = some r) : gi_Ev M_X5_digitOf 0 [some (.int x0), some (.int x1), some (.int x2), none, none] [] h (some (.int r), h) := by
  unfold f_X5_digitOf at hf
  refine gi_EvN 6 (pc' := 7) (lv' := [some (.int x0), some (.int x1), some (.int x2), some (.int x0), some (.int (x1 - 1))]) (st' := []) (h' := h) rfl ?_
  exact e_X5_digitOf_7 h gi_F _ _ _ _ _ _ hf
/-! X2_lay AdmiralGuinea$Offers.lay(LAdmiralGuinea$Book;III)V -/
def f_X2_lay_34 (k_3 : gi_H → Nat → Nat → Int32 → Int32 → Int32 → Int32 → Option gi_H) (h : gi_H) (x0 : Nat) (x1 : Nat) (x2 : Int32) (x3 : Int32) (x4 : Int32) (x5 : Int32) (t0 : Int32) : Option gi_H :=
  (gi_fR h x0 2 0).bind fun y1 => (gi_fR h x1 0 6).bind fun y2 => (gi_ai h y2 0 x5).bind fun y3 => (f_X5_priceOf t0 y3 x4).bind fun y4 => (gi_pi h y1 0 x5 y4).bind fun h5 => (gi_fR h5 x0 2 1).bind fun y6 => (f_X5_digitOf x3 6 x5).bind fun y7 => (f_X5_endings y7 x4).bind fun y8 => (gi_fR h5 x0 2 0).bind fun y9 => (gi_ai h5 y9 0 x5).bind fun y10 => (f_X5_power 10 x4).bind fun y11 => (gi_pl h5 y6 x5 (((Int32.toInt64 t0) * y8) - ((Int32.toInt64 y10) * y11))).bind fun h12 => k_3 h12 x0 x1 x2 x3 x4 (x5 + 1)
set_option maxRecDepth 20000 in
set_option maxHeartbeats 2000000 in
theorem e_X2_lay_34 (k_3 : gi_H → Nat → Nat → Int32 → Int32 → Int32 → Int32 → Option gi_H) (hk_3 : ∀ (g6 : Option Value) (h : gi_H) (x0 : Nat) (x1 : Nat) (x2 : Int32) (x3 : Int32) (x4 : Int32) (x5 : Int32) (r : gi_H), k_3 h x0 x1 x2 x3 x4 x5 = some r → gi_Ev M_X2_lay 3 [some (.ref x0), some (.ref x1), some (.int x2), some (.int x3), some (.int x4), some (.int x5), g6] [] h (none, r)) (g6 : Option Value) (h : gi_H) (x0 : Nat) (x1 : Nat) (x2 : Int32) (x3 : Int32) (x4 : Int32) (x5 : Int32) (t0 : Int32) (r : gi_H) (hf : f_X2_lay_34 k_3 h x0 x1 x2 x3 x4 x5 t0 = some r) : gi_Ev M_X2_lay 34 [some (.ref x0), some (.ref x1), some (.int x2), some (.int x3), some (.int x4), some (.int x5), g6] [.int t0] h (none, r) := by
  unfold f_X2_lay_34 at hf
  refine gi_EvN 2 (pc' := 37) (lv' := [some (.ref x0), some (.ref x1), some (.int x2), some (.int x3), some (.int x4), some (.int x5), some (.int t0)]) (st' := [.ref x0]) (h' := h) rfl ?_
  obtain ⟨y1, qy1, hf⟩ := gi_bind hf
  refine gi_EvF rfl (gi_fR_inv qy1) ?_
  refine gi_EvN 3 (pc' := 45) (lv' := [some (.ref x0), some (.ref x1), some (.int x2), some (.int x3), some (.int x4), some (.int x5), some (.int t0)]) (st' := [.ref x1, .int t0, .int x5, .ref y1]) (h' := h) rfl ?_
  obtain ⟨y2, qy2, hf⟩ := gi_bind hf
  refine gi_EvF rfl (gi_fR_inv qy2) ?_
  refine gi_EvN 1 (pc' := 50) (lv' := [some (.ref x0), some (.ref x1), some (.int x2), some (.int x3), some (.int x4), some (.int x5), some (.int t0)]) (st' := [.int x5, .ref y2, .int t0, .int x5, .ref y1]) (h' := h) rfl ?_
  obtain ⟨y3, qy3, hf⟩ := gi_bind hf
  refine gi_EvAi rfl qy3 ?_
  refine gi_EvN 1 (pc' := 53) (lv' := [some (.ref x0), some (.ref x1), some (.int x2), some (.int x3), some (.int x4), some (.int x5), some (.int t0)]) (st' := [.int x4, .int y3, .int t0, .int x5, .ref y1]) (h' := h) rfl ?_
  obtain ⟨y4, qy4, hf⟩ := gi_bind hf
  refine gi_EvCS rfl rfl rfl rfl rfl (e_X5_priceOf h _ _ _ _ qy4) ?_
  show gi_Ev M_X2_lay 56 [some (.ref x0), some (.ref x1), some (.int x2), some (.int x3), some (.int x4), some (.int x5), some (.int t0)] [.int y4, .int x5, .ref y1] h _
  obtain ⟨h5, qh5, hf⟩ := gi_bind hf
  refine gi_EvPi rfl qh5 ?_
  refine gi_EvN 1 (pc' := 58) (lv' := [some (.ref x0), some (.ref x1), some (.int x2), some (.int x3), some (.int x4), some (.int x5), some (.int t0)]) (st' := [.ref x0]) (h' := h5) rfl ?_
  obtain ⟨y6, qy6, hf⟩ := gi_bind hf
  refine gi_EvF rfl (gi_fR_inv qy6) ?_
  refine gi_EvN 6 (pc' := 71) (lv' := [some (.ref x0), some (.ref x1), some (.int x2), some (.int x3), some (.int x4), some (.int x5), some (.int t0)]) (st' := [.int x5, .int 6, .int x3, .long (Int32.toInt64 t0), .int x5, .ref y6]) (h' := h5) rfl ?_
  obtain ⟨y7, qy7, hf⟩ := gi_bind hf
  refine gi_EvCS rfl rfl rfl rfl rfl (e_X5_digitOf h5 _ _ _ _ qy7) ?_
  show gi_Ev M_X2_lay 74 [some (.ref x0), some (.ref x1), some (.int x2), some (.int x3), some (.int x4), some (.int x5), some (.int t0)] [.int y7, .long (Int32.toInt64 t0), .int x5, .ref y6] h5 _
  refine gi_EvN 1 (pc' := 76) (lv' := [some (.ref x0), some (.ref x1), some (.int x2), some (.int x3), some (.int x4), some (.int x5), some (.int t0)]) (st' := [.int x4, .int y7, .long (Int32.toInt64 t0), .int x5, .ref y6]) (h' := h5) rfl ?_
  obtain ⟨y8, qy8, hf⟩ := gi_bind hf
  refine gi_EvCS rfl rfl rfl rfl rfl (e_X5_endings h5 _ _ _ qy8) ?_
  show gi_Ev M_X2_lay 79 [some (.ref x0), some (.ref x1), some (.int x2), some (.int x3), some (.int x4), some (.int x5), some (.int t0)] [.long y8, .long (Int32.toInt64 t0), .int x5, .ref y6] h5 _
  refine gi_EvN 2 (pc' := 81) (lv' := [some (.ref x0), some (.ref x1), some (.int x2), some (.int x3), some (.int x4), some (.int x5), some (.int t0)]) (st' := [.ref x0, .long ((Int32.toInt64 t0) * y8), .int x5, .ref y6]) (h' := h5) rfl ?_
  obtain ⟨y9, qy9, hf⟩ := gi_bind hf
  refine gi_EvF rfl (gi_fR_inv qy9) ?_
  refine gi_EvN 1 (pc' := 86) (lv' := [some (.ref x0), some (.ref x1), some (.int x2), some (.int x3), some (.int x4), some (.int x5), some (.int t0)]) (st' := [.int x5, .ref y9, .long ((Int32.toInt64 t0) * y8), .int x5, .ref y6]) (h' := h5) rfl ?_
  obtain ⟨y10, qy10, hf⟩ := gi_bind hf
  refine gi_EvAi rfl qy10 ?_
  refine gi_EvN 3 (pc' := 93) (lv' := [some (.ref x0), some (.ref x1), some (.int x2), some (.int x3), some (.int x4), some (.int x5), some (.int t0)]) (st' := [.int x4, .long 10, .long (Int32.toInt64 y10), .long ((Int32.toInt64 t0) * y8), .int x5, .ref y6]) (h' := h5) rfl ?_
  obtain ⟨y11, qy11, hf⟩ := gi_bind hf
  refine gi_EvCS rfl rfl rfl rfl rfl (e_X5_power h5 _ _ _ qy11) ?_
  show gi_Ev M_X2_lay 96 [some (.ref x0), some (.ref x1), some (.int x2), some (.int x3), some (.int x4), some (.int x5), some (.int t0)] [.long y11, .long (Int32.toInt64 y10), .long ((Int32.toInt64 t0) * y8), .int x5, .ref y6] h5 _
  refine gi_EvN 2 (pc' := 98) (lv' := [some (.ref x0), some (.ref x1), some (.int x2), some (.int x3), some (.int x4), some (.int x5), some (.int t0)]) (st' := [.long (((Int32.toInt64 t0) * y8) - ((Int32.toInt64 y10) * y11)), .int x5, .ref y6]) (h' := h5) rfl ?_
  obtain ⟨h12, qh12, hf⟩ := gi_bind hf
  refine gi_EvPl rfl qh12 ?_
  refine gi_EvN 2 (pc' := 3) (lv' := [some (.ref x0), some (.ref x1), some (.int x2), some (.int x3), some (.int x4), some (.int (x5 + 1)), some (.int t0)]) (st' := []) (h' := h12) rfl ?_
  exact hk_3 _ _ _  _  _  _  _  _ _ hf
def f_X2_lay_3 : Nat → gi_H → Nat → Nat → Int32 → Int32 → Int32 → Int32 → Option gi_H
  | 0, _, _, _, _, _, _, _ => none
  | n + 1, h, x0, x1, x2, x3, x4, x5 => if 6 ≤ x5 then some h
  else if gi_is h x1 0 = true then (f_X0_hasEnded h x1 x5).bind fun y2 => if y2 = 0 then (f_X5_digitOf x2 6 x5).bind fun y5 => f_X2_lay_34 (f_X2_lay_3 n) h x0 x1 x2 x3 x4 x5 (10 * y5)
  else f_X2_lay_34 (f_X2_lay_3 n) h x0 x1 x2 x3 x4 x5 0 else none
set_option maxRecDepth 20000 in
set_option maxHeartbeats 2000000 in
theorem e_X2_lay_3 : ∀ (n : Nat) (g6 : Option Value) (h : gi_H) (x0 : Nat) (x1 : Nat) (x2 : Int32) (x3 : Int32) (x4 : Int32) (x5 : Int32) (r : gi_H), f_X2_lay_3 n h x0 x1 x2 x3 x4 x5 = some r → gi_Ev M_X2_lay 3 [some (.ref x0), some (.ref x1), some (.int x2), some (.int x3), some (.int x4), some (.int x5), g6] [] h (none, r) := by
  intro n
  induction n with
  | zero =>
    intro g6 h x0 x1 x2 x3 x4 x5 r hf
    unfold f_X2_lay_3 at hf
    cases hf
  | succ n ih =>
    intro g6 h x0 x1 x2 x3 x4 x5 r hf
    unfold f_X2_lay_3 at hf
    refine gi_EvN 2 (pc' := 7) (lv' := [some (.ref x0), some (.ref x1), some (.int x2), some (.int x3), some (.int x4), some (.int x5), g6]) (st' := [.int 6, .int x5]) (h' := h) rfl ?_
    refine gi_Ev_ige rfl (fun c1 => ?_) (fun c1 => ?_)
    · rw [if_pos c1] at hf
      cases hf
      exact gi_EvR rfl rfl
    · rw [if_neg c1] at hf
      refine gi_EvN 2 (pc' := 13) (lv' := [some (.ref x0), some (.ref x1), some (.int x2), some (.int x3), some (.int x4), some (.int x5), g6]) (st' := [.int x5, .ref x1]) (h' := h) rfl ?_
      by_cases c3 : gi_is h x1 0 = true
      rotate_left
      · rw [if_neg c3] at hf; cases hf
      rw [if_pos c3] at hf
      obtain ⟨y2, qy2, hf⟩ := gi_bind hf
      refine gi_EvCV rfl rfl c3 rfl rfl (e_X0_hasEnded h _ _ _ qy2) ?_
      show gi_Ev M_X2_lay 16 [some (.ref x0), some (.ref x1), some (.int x2), some (.int x3), some (.int x4), some (.int x5), g6] [.int y2] h _
      refine gi_Ev_eq rfl (fun c4 => ?_) (fun c4 => ?_)
      · rw [if_pos c4] at hf
        refine gi_EvN 4 (pc' := 30) (lv' := [some (.ref x0), some (.ref x1), some (.int x2), some (.int x3), some (.int x4), some (.int x5), g6]) (st' := [.int x5, .int 6, .int x2, .int 10]) (h' := h) rfl ?_
        obtain ⟨y5, qy5, hf⟩ := gi_bind hf
        refine gi_EvCS rfl rfl rfl rfl rfl (e_X5_digitOf h _ _ _ _ qy5) ?_
        show gi_Ev M_X2_lay 33 [some (.ref x0), some (.ref x1), some (.int x2), some (.int x3), some (.int x4), some (.int x5), g6] [.int y5, .int 10] h _
        refine gi_EvN 1 (pc' := 34) (lv' := [some (.ref x0), some (.ref x1), some (.int x2), some (.int x3), some (.int x4), some (.int x5), g6]) (st' := [.int (10 * y5)]) (h' := h) rfl ?_
        exact e_X2_lay_34 _ ih _ h _ _ _ _ _ _ _ _ hf
      · rw [if_neg c4] at hf
        refine gi_EvN 2 (pc' := 34) (lv' := [some (.ref x0), some (.ref x1), some (.int x2), some (.int x3), some (.int x4), some (.int x5), g6]) (st' := [.int 0]) (h' := h) rfl ?_
        exact e_X2_lay_34 _ ih _ h _ _ _ _ _ _ _ _ hf
def f_X2_lay (h : gi_H) (x0 : Nat) (x1 : Nat) (x2 : Int32) (x3 : Int32) (x4 : Int32) : Option gi_H :=
  f_X2_lay_3 gi_F h x0 x1 x2 x3 x4 0
set_option maxRecDepth 20000 in
set_option maxHeartbeats 2000000 in
theorem e_X2_lay (h : gi_H) (x0 : Nat) (x1 : Nat) (x2 : Int32) (x3 : Int32) (x4 : Int32) (r : gi_H) (hf : f_X2_lay h x0 x1 x2 x3 x4 = some r) : gi_Ev M_X2_lay 0 [some (.ref x0), some (.ref x1), some (.int x2), some (.int x3), some (.int x4), none, none] [] h (none, r) := by
  unfold f_X2_lay at hf
  refine gi_EvN 2 (pc' := 3) (lv' := [some (.ref x0), some (.ref x1), some (.int x2), some (.int x3), some (.int x4), some (.int 0), none]) (st' := []) (h' := h) rfl ?_
  exact e_X2_lay_3 gi_F _ h _ _ _ _ _ _ _ hf
/-! X2_costOf AdmiralGuinea$Offers.costOf(I)I -/
def f_X2_costOf_4 (h : gi_H) : Nat → Nat → Int32 → Int32 → Int32 → Option Int32
  | 0, _, _, _, _ => none
  | n + 1, x0, x1, x2, x3 => if 6 ≤ x3 then some (x2)
  else if ((x1 >>> (x3 &&& 31)) &&& 1) = 0 then f_X2_costOf_4 h n x0 x1 x2 (x3 + 1)
  else (gi_fR h x0 2 0).bind fun y3 => (gi_ai h y3 0 x3).bind fun y4 => f_X2_costOf_4 h n x0 x1 (x2 + y4) (x3 + 1)
set_option maxRecDepth 20000 in
set_option maxHeartbeats 2000000 in
theorem e_X2_costOf_4 (h : gi_H) : ∀ (n : Nat) (x0 : Nat) (x1 : Int32) (x2 : Int32) (x3 : Int32) (r : Int32), f_X2_costOf_4 h n x0 x1 x2 x3 = some r → gi_Ev M_X2_costOf 4 [some (.ref x0), some (.int x1), some (.int x2), some (.int x3)] [] h (some (.int r), h) := by
  intro n
  induction n with
  | zero =>
    intro x0 x1 x2 x3 r hf
    unfold f_X2_costOf_4 at hf
    cases hf
  | succ n ih =>
    intro x0 x1 x2 x3 r hf
    unfold f_X2_costOf_4 at hf
    refine gi_EvN 2 (pc' := 7) (lv' := [some (.ref x0), some (.int x1), some (.int x2), some (.int x3)]) (st' := [.int 6, .int x3]) (h' := h) rfl ?_
    refine gi_Ev_ige rfl (fun c1 => ?_) (fun c1 => ?_)
    · rw [if_pos c1] at hf
      refine gi_EvN 1 (pc' := 34) (lv' := [some (.ref x0), some (.int x1), some (.int x2), some (.int x3)]) (st' := [.int x2]) (h' := h) rfl ?_
      cases hf
      exact gi_EvR rfl rfl
    · rw [if_neg c1] at hf
      refine gi_EvN 5 (pc' := 15) (lv' := [some (.ref x0), some (.int x1), some (.int x2), some (.int x3)]) (st' := [.int ((x1 >>> (x3 &&& 31)) &&& 1)]) (h' := h) rfl ?_
      refine gi_Ev_eq rfl (fun c2 => ?_) (fun c2 => ?_)
      · rw [if_pos c2] at hf
        refine gi_EvN 2 (pc' := 4) (lv' := [some (.ref x0), some (.int x1), some (.int x2), some (.int (x3 + 1))]) (st' := []) (h' := h) rfl ?_
        exact ih   _  _  _  _ _ hf
      · rw [if_neg c2] at hf
        refine gi_EvN 2 (pc' := 20) (lv' := [some (.ref x0), some (.int x1), some (.int x2), some (.int x3)]) (st' := [.ref x0, .int x2]) (h' := h) rfl ?_
        obtain ⟨y3, qy3, hf⟩ := gi_bind hf
        refine gi_EvF rfl (gi_fR_inv qy3) ?_
        refine gi_EvN 1 (pc' := 24) (lv' := [some (.ref x0), some (.int x1), some (.int x2), some (.int x3)]) (st' := [.int x3, .ref y3, .int x2]) (h' := h) rfl ?_
        obtain ⟨y4, qy4, hf⟩ := gi_bind hf
        refine gi_EvAi rfl qy4 ?_
        refine gi_EvN 4 (pc' := 4) (lv' := [some (.ref x0), some (.int x1), some (.int (x2 + y4)), some (.int (x3 + 1))]) (st' := []) (h' := h) rfl ?_
        exact ih   _  _  _  _ _ hf
def f_X2_costOf (h : gi_H) (x0 : Nat) (x1 : Int32) : Option Int32 :=
  f_X2_costOf_4 h gi_F x0 x1 0 0
set_option maxRecDepth 20000 in
set_option maxHeartbeats 2000000 in
theorem e_X2_costOf (h : gi_H) (x0 : Nat) (x1 : Int32) (r : Int32) (hf : f_X2_costOf h x0 x1 = some r) : gi_Ev M_X2_costOf 0 [some (.ref x0), some (.int x1), none, none] [] h (some (.int r), h) := by
  unfold f_X2_costOf at hf
  refine gi_EvN 4 (pc' := 4) (lv' := [some (.ref x0), some (.int x1), some (.int 0), some (.int 0)]) (st' := []) (h' := h) rfl ?_
  exact e_X2_costOf_4 h gi_F _ _ _ _ _ hf
/-! X2_surplusOf AdmiralGuinea$Offers.surplusOf(I)J -/
def f_X2_surplusOf_5 (h : gi_H) : Nat → Nat → Int32 → Int64 → Int32 → Option Int64
  | 0, _, _, _, _ => none
  | n + 1, x0, x1, x2, x4 => if 6 ≤ x4 then some (x2)
  else if ((x1 >>> (x4 &&& 31)) &&& 1) = 0 then f_X2_surplusOf_5 h n x0 x1 x2 (x4 + 1)
  else (gi_fR h x0 2 1).bind fun y3 => (gi_al h y3 x4).bind fun y4 => f_X2_surplusOf_5 h n x0 x1 (x2 + y4) (x4 + 1)
set_option maxRecDepth 20000 in
set_option maxHeartbeats 2000000 in
theorem e_X2_surplusOf_5 (h : gi_H) : ∀ (n : Nat) (g3 : Option Value) (x0 : Nat) (x1 : Int32) (x2 : Int64) (x4 : Int32) (r : Int64), f_X2_surplusOf_5 h n x0 x1 x2 x4 = some r → gi_Ev M_X2_surplusOf 5 [some (.ref x0), some (.int x1), some (.long x2), g3, some (.int x4)] [] h (some (.long r), h) := by
  intro n
  induction n with
  | zero =>
    intro g3 x0 x1 x2 x4 r hf
    unfold f_X2_surplusOf_5 at hf
    cases hf
  | succ n ih =>
    intro g3 x0 x1 x2 x4 r hf
    unfold f_X2_surplusOf_5 at hf
    refine gi_EvN 2 (pc' := 9) (lv' := [some (.ref x0), some (.int x1), some (.long x2), g3, some (.int x4)]) (st' := [.int 6, .int x4]) (h' := h) rfl ?_
    refine gi_Ev_ige rfl (fun c1 => ?_) (fun c1 => ?_)
    · rw [if_pos c1] at hf
      refine gi_EvN 1 (pc' := 38) (lv' := [some (.ref x0), some (.int x1), some (.long x2), g3, some (.int x4)]) (st' := [.long x2]) (h' := h) rfl ?_
      cases hf
      exact gi_EvR rfl rfl
    · rw [if_neg c1] at hf
      refine gi_EvN 5 (pc' := 18) (lv' := [some (.ref x0), some (.int x1), some (.long x2), g3, some (.int x4)]) (st' := [.int ((x1 >>> (x4 &&& 31)) &&& 1)]) (h' := h) rfl ?_
      refine gi_Ev_eq rfl (fun c2 => ?_) (fun c2 => ?_)
      · rw [if_pos c2] at hf
        refine gi_EvN 2 (pc' := 5) (lv' := [some (.ref x0), some (.int x1), some (.long x2), (gi_cl g3), some (.int (x4 + 1))]) (st' := []) (h' := h) rfl ?_
        exact ih _  _  _  _  _ _ hf
      · rw [if_neg c2] at hf
        refine gi_EvN 2 (pc' := 23) (lv' := [some (.ref x0), some (.int x1), some (.long x2), g3, some (.int x4)]) (st' := [.ref x0, .long x2]) (h' := h) rfl ?_
        obtain ⟨y3, qy3, hf⟩ := gi_bind hf
        refine gi_EvF rfl (gi_fR_inv qy3) ?_
        refine gi_EvN 1 (pc' := 28) (lv' := [some (.ref x0), some (.int x1), some (.long x2), g3, some (.int x4)]) (st' := [.int x4, .ref y3, .long x2]) (h' := h) rfl ?_
        obtain ⟨y4, qy4, hf⟩ := gi_bind hf
        refine gi_EvAl rfl qy4 ?_
        refine gi_EvN 4 (pc' := 5) (lv' := [some (.ref x0), some (.int x1), some (.long (x2 + y4)), none, some (.int (x4 + 1))]) (st' := []) (h' := h) rfl ?_
        exact ih _  _  _  _  _ _ hf
def f_X2_surplusOf (h : gi_H) (x0 : Nat) (x1 : Int32) : Option Int64 :=
  f_X2_surplusOf_5 h gi_F x0 x1 0 0
set_option maxRecDepth 20000 in
set_option maxHeartbeats 2000000 in
theorem e_X2_surplusOf (h : gi_H) (x0 : Nat) (x1 : Int32) (r : Int64) (hf : f_X2_surplusOf h x0 x1 = some r) : gi_Ev M_X2_surplusOf 0 [some (.ref x0), some (.int x1), none, none, none] [] h (some (.long r), h) := by
  unfold f_X2_surplusOf at hf
  refine gi_EvN 4 (pc' := 5) (lv' := [some (.ref x0), some (.int x1), some (.long 0), none, some (.int 0)]) (st' := []) (h' := h) rfl ?_
  exact e_X2_surplusOf_5 h gi_F _ _ _ _ _ _ hf
/-! X2_bestSet AdmiralGuinea$Offers.bestSet(I)I -/
def f_X2_bestSet_7 (h : gi_H) : Nat → Nat → Int32 → Int32 → Int64 → Int32 → Option Int32
  | 0, _, _, _, _, _ => none
  | n + 1, x0, x1, x2, x3, x5 => if 64 ≤ x5 then some (x2)
  else if gi_is h x0 2 = true then (f_X2_costOf h x0 x5).bind fun y2 => if x1 < y2 then f_X2_bestSet_7 h n x0 x1 x2 x3 (x5 + 1)
  else if gi_is h x0 2 = true then (f_X2_surplusOf h x0 x5).bind fun y5 => if (lg_cmp y5 x3) ≤ 0 then f_X2_bestSet_7 h n x0 x1 x2 x3 (x5 + 1)
  else f_X2_bestSet_7 h n x0 x1 x5 y5 (x5 + 1) else none else none
set_option maxRecDepth 20000 in
set_option maxHeartbeats 2000000 in
theorem e_X2_bestSet_7 (h : gi_H) : ∀ (n : Nat) (g4 : Option Value) (g6 : Option Value) (g7 : Option Value) (x0 : Nat) (x1 : Int32) (x2 : Int32) (x3 : Int64) (x5 : Int32) (r : Int32), f_X2_bestSet_7 h n x0 x1 x2 x3 x5 = some r → gi_Ev M_X2_bestSet 7 [some (.ref x0), some (.int x1), some (.int x2), some (.long x3), g4, some (.int x5), g6, g7] [] h (some (.int r), h) := by
  intro n
  induction n with
  | zero =>
    intro g4 g6 g7 x0 x1 x2 x3 x5 r hf
    unfold f_X2_bestSet_7 at hf
    cases hf
  | succ n ih =>
    intro g4 g6 g7 x0 x1 x2 x3 x5 r hf
    unfold f_X2_bestSet_7 at hf
    refine gi_EvN 2 (pc' := 11) (lv' := [some (.ref x0), some (.int x1), some (.int x2), some (.long x3), g4, some (.int x5), g6, g7]) (st' := [.int 64, .int x5]) (h' := h) rfl ?_
    refine gi_Ev_ige rfl (fun c1 => ?_) (fun c1 => ?_)
    · rw [if_pos c1] at hf
      refine gi_EvN 1 (pc' := 52) (lv' := [some (.ref x0), some (.int x1), some (.int x2), some (.long x3), g4, some (.int x5), g6, g7]) (st' := [.int x2]) (h' := h) rfl ?_
      cases hf
      exact gi_EvR rfl rfl
    · rw [if_neg c1] at hf
      refine gi_EvN 2 (pc' := 17) (lv' := [some (.ref x0), some (.int x1), some (.int x2), some (.long x3), g4, some (.int x5), g6, g7]) (st' := [.int x5, .ref x0]) (h' := h) rfl ?_
      by_cases c3 : gi_is h x0 2 = true
      rotate_left
      · rw [if_neg c3] at hf; cases hf
      rw [if_pos c3] at hf
      obtain ⟨y2, qy2, hf⟩ := gi_bind hf
      refine gi_EvCV rfl rfl c3 rfl rfl (e_X2_costOf h _ _ _ qy2) ?_
      show gi_Ev M_X2_bestSet 20 [some (.ref x0), some (.int x1), some (.int x2), some (.long x3), g4, some (.int x5), g6, g7] [.int y2] h _
      refine gi_EvN 1 (pc' := 21) (lv' := [some (.ref x0), some (.int x1), some (.int x2), some (.long x3), g4, some (.int x5), g6, g7]) (st' := [.int x1, .int y2]) (h' := h) rfl ?_
      refine gi_Ev_igt rfl (fun c4 => ?_) (fun c4 => ?_)
      · rw [if_pos c4] at hf
        refine gi_EvN 2 (pc' := 7) (lv' := [some (.ref x0), some (.int x1), some (.int x2), some (.long x3), (gi_cl g4), some (.int (x5 + 1)), g6, g7]) (st' := []) (h' := h) rfl ?_
        exact ih _ _ _  _  _  _  _  _ _ hf
      · rw [if_neg c4] at hf
        refine gi_EvN 2 (pc' := 27) (lv' := [some (.ref x0), some (.int x1), some (.int x2), some (.long x3), g4, some (.int x5), g6, g7]) (st' := [.int x5, .ref x0]) (h' := h) rfl ?_
        by_cases c6 : gi_is h x0 2 = true
        rotate_left
        · rw [if_neg c6] at hf; cases hf
        rw [if_pos c6] at hf
        obtain ⟨y5, qy5, hf⟩ := gi_bind hf
        refine gi_EvCV rfl rfl c6 rfl rfl (e_X2_surplusOf h _ _ _ qy5) ?_
        show gi_Ev M_X2_bestSet 30 [some (.ref x0), some (.int x1), some (.int x2), some (.long x3), g4, some (.int x5), g6, g7] [.long y5] h _
        refine gi_EvN 4 (pc' := 36) (lv' := [some (.ref x0), some (.int x1), some (.int x2), some (.long x3), g4, some (.int x5), some (.long y5), none]) (st' := [.int (lg_cmp y5 x3)]) (h' := h) rfl ?_
        refine gi_Ev_le rfl (fun c7 => ?_) (fun c7 => ?_)
        · rw [if_pos c7] at hf
          refine gi_EvN 2 (pc' := 7) (lv' := [some (.ref x0), some (.int x1), some (.int x2), some (.long x3), (gi_cl g4), some (.int (x5 + 1)), some (.long y5), none]) (st' := []) (h' := h) rfl ?_
          exact ih _ _ _  _  _  _  _  _ _ hf
        · rw [if_neg c7] at hf
          refine gi_EvN 6 (pc' := 7) (lv' := [some (.ref x0), some (.int x1), some (.int x5), some (.long y5), none, some (.int (x5 + 1)), some (.long y5), none]) (st' := []) (h' := h) rfl ?_
          exact ih _ _ _  _  _  _  _  _ _ hf
def f_X2_bestSet (h : gi_H) (x0 : Nat) (x1 : Int32) : Option Int32 :=
  f_X2_bestSet_7 h gi_F x0 x1 0 0 1
set_option maxRecDepth 20000 in
set_option maxHeartbeats 2000000 in
theorem e_X2_bestSet (h : gi_H) (x0 : Nat) (x1 : Int32) (r : Int32) (hf : f_X2_bestSet h x0 x1 = some r) : gi_Ev M_X2_bestSet 0 [some (.ref x0), some (.int x1), none, none, none, none, none, none] [] h (some (.int r), h) := by
  unfold f_X2_bestSet at hf
  refine gi_EvN 6 (pc' := 7) (lv' := [some (.ref x0), some (.int x1), some (.int 0), some (.long 0), none, some (.int 1), none, none]) (st' := []) (h' := h) rfl ?_
  exact e_X2_bestSet_7 h gi_F _ _ _ _ _ _ _ _ _ hf
/-! X3_init AdmiralGuinea$Pad.<init>()V -/
def f_X3_init (h : gi_H) (x0 : Nat) : Option gi_H :=
  (gi_new h (gi_na 0 60)).bind fun h1 => (gi_fp h1 x0 3 1 (.ref (List.length h))).bind fun h2 => some h2
set_option maxRecDepth 20000 in
set_option maxHeartbeats 2000000 in
theorem e_X3_init (h : gi_H) (x0 : Nat) (r : gi_H) (hf : f_X3_init h x0 = some r) : gi_Ev M_X3_init 0 [some (.ref x0)] [] h (none, r) := by
  unfold f_X3_init at hf
  refine gi_EvN 4 (pc' := 7) (lv' := [some (.ref x0)]) (st' := [.int 60, .ref x0]) (h' := h) rfl ?_
  obtain ⟨h1, qh1, hf⟩ := gi_bind hf
  refine gi_EvNwa (N := 60) rfl (by decide) (by decide) (by decide) qh1 ?_
  obtain ⟨h2, qh2, hf⟩ := gi_bind hf
  refine gi_EvFp rfl rfl qh2 ?_
  cases hf
  exact gi_EvR rfl rfl
/-! X3_write AdmiralGuinea$Pad.write(I)Z -/
def f_X3_write (h : gi_H) (x0 : Nat) (x1 : Int32) : Option (Int32 × gi_H) :=
  (gi_fI h x0 3 0).bind fun y1 => (f_X5_isWithin y1 0 59).bind fun y2 => if y2 = 0 then some (0, h)
  else (gi_fR h x0 3 1).bind fun y4 => (gi_fI h x0 3 0).bind fun y5 => (gi_pi h y4 0 y5 x1).bind fun h6 => (gi_fI h6 x0 3 0).bind fun y7 => (gi_fp h6 x0 3 0 (.int (y7 + 1))).bind fun h8 => some (1, h8)
set_option maxRecDepth 20000 in
set_option maxHeartbeats 2000000 in
theorem e_X3_write (h : gi_H) (x0 : Nat) (x1 : Int32) (r : (Int32 × gi_H)) (hf : f_X3_write h x0 x1 = some r) : gi_Ev M_X3_write 0 [some (.ref x0), some (.int x1)] [] h (some (.int r.1), r.2) := by
  unfold f_X3_write at hf
  refine gi_EvN 1 (pc' := 1) (lv' := [some (.ref x0), some (.int x1)]) (st' := [.ref x0]) (h' := h) rfl ?_
  obtain ⟨y1, qy1, hf⟩ := gi_bind hf
  refine gi_EvF rfl (gi_fI_inv qy1) ?_
  refine gi_EvN 2 (pc' := 7) (lv' := [some (.ref x0), some (.int x1)]) (st' := [.int 59, .int 0, .int y1]) (h' := h) rfl ?_
  obtain ⟨y2, qy2, hf⟩ := gi_bind hf
  refine gi_EvCS rfl rfl rfl rfl rfl (e_X5_isWithin h _ _ _ _ qy2) ?_
  show gi_Ev M_X3_write 10 [some (.ref x0), some (.int x1)] [.int y2] h _
  refine gi_Ev_ne rfl (fun c3 => ?_) (fun c3 => ?_)
  · rw [if_pos c3] at hf
    refine gi_EvN 1 (pc' := 14) (lv' := [some (.ref x0), some (.int x1)]) (st' := [.int 0]) (h' := h) rfl ?_
    cases hf
    exact gi_EvR rfl rfl
  · rw [if_neg c3] at hf
    refine gi_EvN 1 (pc' := 16) (lv' := [some (.ref x0), some (.int x1)]) (st' := [.ref x0]) (h' := h) rfl ?_
    obtain ⟨y4, qy4, hf⟩ := gi_bind hf
    refine gi_EvF rfl (gi_fR_inv qy4) ?_
    refine gi_EvN 1 (pc' := 20) (lv' := [some (.ref x0), some (.int x1)]) (st' := [.ref x0, .ref y4]) (h' := h) rfl ?_
    obtain ⟨y5, qy5, hf⟩ := gi_bind hf
    refine gi_EvF rfl (gi_fI_inv qy5) ?_
    refine gi_EvN 1 (pc' := 24) (lv' := [some (.ref x0), some (.int x1)]) (st' := [.int x1, .int y5, .ref y4]) (h' := h) rfl ?_
    obtain ⟨h6, qh6, hf⟩ := gi_bind hf
    refine gi_EvPi rfl qh6 ?_
    refine gi_EvN 2 (pc' := 27) (lv' := [some (.ref x0), some (.int x1)]) (st' := [.ref x0, .ref x0]) (h' := h6) rfl ?_
    obtain ⟨y7, qy7, hf⟩ := gi_bind hf
    refine gi_EvF rfl (gi_fI_inv qy7) ?_
    refine gi_EvN 2 (pc' := 32) (lv' := [some (.ref x0), some (.int x1)]) (st' := [.int (y7 + 1), .ref x0]) (h' := h6) rfl ?_
    obtain ⟨h8, qh8, hf⟩ := gi_bind hf
    refine gi_EvFp rfl rfl qh8 ?_
    refine gi_EvN 1 (pc' := 36) (lv' := [some (.ref x0), some (.int x1)]) (st' := [.int 1]) (h' := h8) rfl ?_
    cases hf
    exact gi_EvR rfl rfl
/-! X3_firstFault AdmiralGuinea$Pad.firstFault()I -/
def f_X3_firstFault_35 (h : gi_H) (x0 : Nat) (x1 : Int32) : Option Int32 :=
  if x1 = 0 then some ((-6))
  else (gi_fI h x0 3 0).bind fun y2 => some (y2)
set_option maxRecDepth 20000 in
set_option maxHeartbeats 2000000 in
theorem e_X3_firstFault_35 (h : gi_H) (g2 : Option Value) (x0 : Nat) (x1 : Int32) (r : Int32) (hf : f_X3_firstFault_35 h x0 x1 = some r) : gi_Ev M_X3_firstFault 35 [some (.ref x0), some (.int x1), g2] [] h (some (.int r), h) := by
  unfold f_X3_firstFault_35 at hf
  refine gi_EvN 1 (pc' := 36) (lv' := [some (.ref x0), some (.int x1), g2]) (st' := [.int x1]) (h' := h) rfl ?_
  refine gi_Ev_ne rfl (fun c1 => ?_) (fun c1 => ?_)
  · rw [if_pos c1] at hf
    refine gi_EvN 2 (pc' := 48) (lv' := [some (.ref x0), some (.int x1), g2]) (st' := [.int (-6)]) (h' := h) rfl ?_
    cases hf
    exact gi_EvR rfl rfl
  · rw [if_neg c1] at hf
    refine gi_EvN 1 (pc' := 45) (lv' := [some (.ref x0), some (.int x1), g2]) (st' := [.ref x0]) (h' := h) rfl ?_
    obtain ⟨y2, qy2, hf⟩ := gi_bind hf
    refine gi_EvF rfl (gi_fI_inv qy2) ?_
    cases hf
    exact gi_EvR rfl rfl
def f_X3_firstFault_4 (h : gi_H) : Nat → Nat → Int32 → Int32 → Option Int32
  | 0, _, _, _ => none
  | n + 1, x0, x1, x2 => (gi_fI h x0 3 0).bind fun y1 => if y1 ≤ x2 then f_X3_firstFault_35 h x0 x1
  else if gi_is h x0 3 = true then (f_X3_signAt h x0 x2).bind fun y3 => (f_X3_stepBehind x1 y3).bind fun y5 => if y5 = (-1) then some (x2)
  else f_X3_firstFault_4 h n x0 y5 (x2 + 1) else none
set_option maxRecDepth 20000 in
set_option maxHeartbeats 2000000 in
theorem e_X3_firstFault_4 (h : gi_H) : ∀ (n : Nat) (x0 : Nat) (x1 : Int32) (x2 : Int32) (r : Int32), f_X3_firstFault_4 h n x0 x1 x2 = some r → gi_Ev M_X3_firstFault 4 [some (.ref x0), some (.int x1), some (.int x2)] [] h (some (.int r), h) := by
  intro n
  induction n with
  | zero =>
    intro x0 x1 x2 r hf
    unfold f_X3_firstFault_4 at hf
    cases hf
  | succ n ih =>
    intro x0 x1 x2 r hf
    unfold f_X3_firstFault_4 at hf
    refine gi_EvN 2 (pc' := 6) (lv' := [some (.ref x0), some (.int x1), some (.int x2)]) (st' := [.ref x0, .int x2]) (h' := h) rfl ?_
    obtain ⟨y1, qy1, hf⟩ := gi_bind hf
    refine gi_EvF rfl (gi_fI_inv qy1) ?_
    refine gi_Ev_ige rfl (fun c2 => ?_) (fun c2 => ?_)
    · rw [if_pos c2] at hf
      exact e_X3_firstFault_35 h _ _ _ _ hf
    · rw [if_neg c2] at hf
      refine gi_EvN 3 (pc' := 15) (lv' := [some (.ref x0), some (.int x1), some (.int x2)]) (st' := [.int x2, .ref x0, .int x1]) (h' := h) rfl ?_
      by_cases c4 : gi_is h x0 3 = true
      rotate_left
      · rw [if_neg c4] at hf; cases hf
      rw [if_pos c4] at hf
      obtain ⟨y3, qy3, hf⟩ := gi_bind hf
      refine gi_EvCV rfl rfl c4 rfl rfl (e_X3_signAt h _ _ _ qy3) ?_
      show gi_Ev M_X3_firstFault 18 [some (.ref x0), some (.int x1), some (.int x2)] [.int y3, .int x1] h _
      obtain ⟨y5, qy5, hf⟩ := gi_bind hf
      refine gi_EvCS rfl rfl rfl rfl rfl (e_X3_stepBehind h _ _ _ qy5) ?_
      show gi_Ev M_X3_firstFault 21 [some (.ref x0), some (.int x1), some (.int x2)] [.int y5] h _
      refine gi_EvN 3 (pc' := 24) (lv' := [some (.ref x0), some (.int y5), some (.int x2)]) (st' := [.int (-1), .int y5]) (h' := h) rfl ?_
      refine gi_Ev_ine rfl (fun c6 => ?_) (fun c6 => ?_)
      · rw [if_pos c6] at hf
        refine gi_EvN 1 (pc' := 28) (lv' := [some (.ref x0), some (.int y5), some (.int x2)]) (st' := [.int x2]) (h' := h) rfl ?_
        cases hf
        exact gi_EvR rfl rfl
      · rw [if_neg c6] at hf
        refine gi_EvN 2 (pc' := 4) (lv' := [some (.ref x0), some (.int y5), some (.int (x2 + 1))]) (st' := []) (h' := h) rfl ?_
        exact ih   _  _  _ _ hf
def f_X3_firstFault (h : gi_H) (x0 : Nat) : Option Int32 :=
  f_X3_firstFault_4 h gi_F x0 0 0
set_option maxRecDepth 20000 in
set_option maxHeartbeats 2000000 in
theorem e_X3_firstFault (h : gi_H) (x0 : Nat) (r : Int32) (hf : f_X3_firstFault h x0 = some r) : gi_Ev M_X3_firstFault 0 [some (.ref x0), none, none] [] h (some (.int r), h) := by
  unfold f_X3_firstFault at hf
  refine gi_EvN 4 (pc' := 4) (lv' := [some (.ref x0), some (.int 0), some (.int 0)]) (st' := []) (h' := h) rfl ?_
  exact e_X3_firstFault_4 h gi_F _ _ _ _ hf
/-! X4_init AdmiralGuinea$Worlds.<init>()V -/
def f_X4_init (h : gi_H) (x0 : Nat) : Option gi_H :=
  (gi_new h (gi_na 0 109)).bind fun h1 => (gi_fp h1 x0 4 0 (.ref (List.length h))).bind fun h2 => some h2
set_option maxRecDepth 20000 in
set_option maxHeartbeats 2000000 in
theorem e_X4_init (h : gi_H) (x0 : Nat) (r : gi_H) (hf : f_X4_init h x0 = some r) : gi_Ev M_X4_init 0 [some (.ref x0)] [] h (none, r) := by
  unfold f_X4_init at hf
  refine gi_EvN 4 (pc' := 7) (lv' := [some (.ref x0)]) (st' := [.int 109, .ref x0]) (h' := h) rfl ?_
  obtain ⟨h1, qh1, hf⟩ := gi_bind hf
  refine gi_EvNwa (N := 109) rfl (by decide) (by decide) (by decide) qh1 ?_
  obtain ⟨h2, qh2, hf⟩ := gi_bind hf
  refine gi_EvFp rfl rfl qh2 ?_
  cases hf
  exact gi_EvR rfl rfl
/-! X4_policyOf AdmiralGuinea$Worlds.policyOf(I)I -/
def f_X4_policyOf (x0 : Int32) : Option Int32 :=
  some (((x0 - 1) / 4))
set_option maxRecDepth 20000 in
set_option maxHeartbeats 2000000 in
theorem e_X4_policyOf (h : gi_H) (x0 : Int32) (r : Int32) (hf : f_X4_policyOf x0 = some r) : gi_Ev M_X4_policyOf 0 [some (.int x0)] [] h (some (.int r), h) := by
  unfold f_X4_policyOf at hf
  refine gi_EvN 4 (pc' := 4) (lv' := [some (.int x0)]) (st' := [.int 4, .int (x0 - 1)]) (h' := h) rfl ?_
  refine gi_EvDi rfl (by decide) ?_
  cases hf
  exact gi_EvR rfl rfl
/-! X4_holderIn AdmiralGuinea$Worlds.holderIn(I)I -/
def f_X4_holderIn (x0 : Int32) : Option Int32 :=
  some (((x0 - 1) - (x0 - 1) / 4 * 4))
set_option maxRecDepth 20000 in
set_option maxHeartbeats 2000000 in
theorem e_X4_holderIn (h : gi_H) (x0 : Int32) (r : Int32) (hf : f_X4_holderIn x0 = some r) : gi_Ev M_X4_holderIn 0 [some (.int x0)] [] h (some (.int r), h) := by
  unfold f_X4_holderIn at hf
  refine gi_EvN 4 (pc' := 4) (lv' := [some (.int x0)]) (st' := [.int 4, .int (x0 - 1)]) (h' := h) rfl ?_
  refine gi_EvRi rfl (by decide) ?_
  cases hf
  exact gi_EvR rfl rfl
/-! X4_everyWorld AdmiralGuinea$Worlds.everyWorld(LAdmiralGuinea$Book;)J -/
def f_X4_everyWorld_4 (h : gi_H) : Nat → Nat → Int64 → Int32 → Option Int64
  | 0, _, _, _ => none
  | n + 1, x0, x1, x3 => if 49 ≤ x3 then some (x1)
  else (f_X4_policyOf x3).bind fun y2 => if gi_is h x0 0 = true then (f_X0_stands h x0 y2).bind fun y3 => if y3 = 0 then f_X4_everyWorld_4 h n x0 x1 (x3 + 1)
  else (gi_fR h x0 0 8).bind fun y6 => (gi_ai h y6 0 y2).bind fun y7 => (f_X4_holderIn x3).bind fun y8 => if y7 = y8 then f_X4_everyWorld_4 h n x0 x1 (x3 + 1)
  else f_X4_everyWorld_4 h n x0 (x1 ||| (1 <<< (Int32.toInt64 x3 &&& 63))) (x3 + 1) else none
set_option maxRecDepth 20000 in
set_option maxHeartbeats 2000000 in
theorem e_X4_everyWorld_4 (h : gi_H) : ∀ (n : Nat) (g2 : Option Value) (g4 : Option Value) (x0 : Nat) (x1 : Int64) (x3 : Int32) (r : Int64), f_X4_everyWorld_4 h n x0 x1 x3 = some r → gi_Ev M_X4_everyWorld 4 [some (.ref x0), some (.long x1), g2, some (.int x3), g4] [] h (some (.long r), h) := by
  intro n
  induction n with
  | zero =>
    intro g2 g4 x0 x1 x3 r hf
    unfold f_X4_everyWorld_4 at hf
    cases hf
  | succ n ih =>
    intro g2 g4 x0 x1 x3 r hf
    unfold f_X4_everyWorld_4 at hf
    refine gi_EvN 2 (pc' := 7) (lv' := [some (.ref x0), some (.long x1), g2, some (.int x3), g4]) (st' := [.int 49, .int x3]) (h' := h) rfl ?_
    refine gi_Ev_ige rfl (fun c1 => ?_) (fun c1 => ?_)
    · rw [if_pos c1] at hf
      refine gi_EvN 1 (pc' := 52) (lv' := [some (.ref x0), some (.long x1), g2, some (.int x3), g4]) (st' := [.long x1]) (h' := h) rfl ?_
      cases hf
      exact gi_EvR rfl rfl
    · rw [if_neg c1] at hf
      refine gi_EvN 1 (pc' := 11) (lv' := [some (.ref x0), some (.long x1), g2, some (.int x3), g4]) (st' := [.int x3]) (h' := h) rfl ?_
      obtain ⟨y2, qy2, hf⟩ := gi_bind hf
      refine gi_EvCS rfl rfl rfl rfl rfl (e_X4_policyOf h _ _ qy2) ?_
      show gi_Ev M_X4_everyWorld 14 [some (.ref x0), some (.long x1), g2, some (.int x3), g4] [.int y2] h _
      refine gi_EvN 3 (pc' := 19) (lv' := [some (.ref x0), some (.long x1), g2, some (.int x3), some (.int y2)]) (st' := [.int y2, .ref x0]) (h' := h) rfl ?_
      by_cases c4 : gi_is h x0 0 = true
      rotate_left
      · rw [if_neg c4] at hf; cases hf
      rw [if_pos c4] at hf
      obtain ⟨y3, qy3, hf⟩ := gi_bind hf
      refine gi_EvCV rfl rfl c4 rfl rfl (e_X0_stands h _ _ _ qy3) ?_
      show gi_Ev M_X4_everyWorld 22 [some (.ref x0), some (.long x1), g2, some (.int x3), some (.int y2)] [.int y3] h _
      refine gi_Ev_eq rfl (fun c5 => ?_) (fun c5 => ?_)
      · rw [if_pos c5] at hf
        refine gi_EvN 2 (pc' := 4) (lv' := [some (.ref x0), some (.long x1), (gi_cl g2), some (.int (x3 + 1)), some (.int y2)]) (st' := []) (h' := h) rfl ?_
        exact ih _ _  _  _  _ _ hf
      · rw [if_neg c5] at hf
        refine gi_EvN 1 (pc' := 26) (lv' := [some (.ref x0), some (.long x1), g2, some (.int x3), some (.int y2)]) (st' := [.ref x0]) (h' := h) rfl ?_
        obtain ⟨y6, qy6, hf⟩ := gi_bind hf
        refine gi_EvF rfl (gi_fR_inv qy6) ?_
        refine gi_EvN 1 (pc' := 31) (lv' := [some (.ref x0), some (.long x1), g2, some (.int x3), some (.int y2)]) (st' := [.int y2, .ref y6]) (h' := h) rfl ?_
        obtain ⟨y7, qy7, hf⟩ := gi_bind hf
        refine gi_EvAi rfl qy7 ?_
        refine gi_EvN 1 (pc' := 33) (lv' := [some (.ref x0), some (.long x1), g2, some (.int x3), some (.int y2)]) (st' := [.int x3, .int y7]) (h' := h) rfl ?_
        obtain ⟨y8, qy8, hf⟩ := gi_bind hf
        refine gi_EvCS rfl rfl rfl rfl rfl (e_X4_holderIn h _ _ qy8) ?_
        show gi_Ev M_X4_everyWorld 36 [some (.ref x0), some (.long x1), g2, some (.int x3), some (.int y2)] [.int y8, .int y7] h _
        refine gi_Ev_ieq rfl (fun c9 => ?_) (fun c9 => ?_)
        · rw [if_pos c9] at hf
          refine gi_EvN 2 (pc' := 4) (lv' := [some (.ref x0), some (.long x1), (gi_cl g2), some (.int (x3 + 1)), some (.int y2)]) (st' := []) (h' := h) rfl ?_
          exact ih _ _  _  _  _ _ hf
        · rw [if_neg c9] at hf
          refine gi_EvN 8 (pc' := 4) (lv' := [some (.ref x0), some (.long (x1 ||| (1 <<< (Int32.toInt64 x3 &&& 63)))), none, some (.int (x3 + 1)), some (.int y2)]) (st' := []) (h' := h) rfl ?_
          exact ih _ _  _  _  _ _ hf
def f_X4_everyWorld (h : gi_H) (x0 : Nat) : Option Int64 :=
  f_X4_everyWorld_4 h gi_F x0 1 1
set_option maxRecDepth 20000 in
set_option maxHeartbeats 2000000 in
theorem e_X4_everyWorld (h : gi_H) (x0 : Nat) (r : Int64) (hf : f_X4_everyWorld h x0 = some r) : gi_Ev M_X4_everyWorld 0 [some (.ref x0), none, none, none, none] [] h (some (.long r), h) := by
  unfold f_X4_everyWorld at hf
  refine gi_EvN 4 (pc' := 4) (lv' := [some (.ref x0), some (.long 1), none, some (.int 1), none]) (st' := []) (h' := h) rfl ?_
  exact e_X4_everyWorld_4 h gi_F _ _ _ _ _ _ hf
/-! X4_moreIn AdmiralGuinea$Worlds.moreIn(LAdmiralGuinea$Book;III)I -/
def f_X4_moreIn (h : gi_H) (x0 : Nat) (x1 : Int32) (x2 : Int32) (x3 : Int32) : Option Int32 :=
  (f_X4_policyOf x1).bind fun y1 => if x1 = 0 then some (0)
  else if gi_is h x0 0 = true then (f_X0_stands h x0 y1).bind fun y3 => if y3 = 0 then some (0)
  else (gi_fR h x0 0 9).bind fun y6 => (gi_ai h y6 0 y1).bind fun y7 => if y7 = x3 then (f_X4_holderIn x1).bind fun y9 => if y9 = x2 then (gi_fR h x0 0 10).bind fun y11 => (gi_ai h y11 0 y1).bind fun y12 => some (y12)
  else (gi_fR h x0 0 8).bind fun y13 => (gi_ai h y13 0 y1).bind fun y14 => if y14 = x2 then (gi_fR h x0 0 10).bind fun y16 => (gi_ai h y16 0 y1).bind fun y17 => some ((-y17))
  else some (0)
  else some (0) else none
set_option maxRecDepth 20000 in
set_option maxHeartbeats 2000000 in
theorem e_X4_moreIn (h : gi_H) (x0 : Nat) (x1 : Int32) (x2 : Int32) (x3 : Int32) (r : Int32) (hf : f_X4_moreIn h x0 x1 x2 x3 = some r) : gi_Ev M_X4_moreIn 0 [some (.ref x0), some (.int x1), some (.int x2), some (.int x3), none] [] h (some (.int r), h) := by
  unfold f_X4_moreIn at hf
  refine gi_EvN 1 (pc' := 1) (lv' := [some (.ref x0), some (.int x1), some (.int x2), some (.int x3), none]) (st' := [.int x1]) (h' := h) rfl ?_
  obtain ⟨y1, qy1, hf⟩ := gi_bind hf
  refine gi_EvCS rfl rfl rfl rfl rfl (e_X4_policyOf h _ _ qy1) ?_
  show gi_Ev M_X4_moreIn 4 [some (.ref x0), some (.int x1), some (.int x2), some (.int x3), none] [.int y1] h _
  refine gi_EvN 2 (pc' := 7) (lv' := [some (.ref x0), some (.int x1), some (.int x2), some (.int x3), some (.int y1)]) (st' := [.int x1]) (h' := h) rfl ?_
  refine gi_Ev_eq rfl (fun c2 => ?_) (fun c2 => ?_)
  · rw [if_pos c2] at hf
    refine gi_EvN 1 (pc' := 31) (lv' := [some (.ref x0), some (.int x1), some (.int x2), some (.int x3), some (.int y1)]) (st' := [.int 0]) (h' := h) rfl ?_
    cases hf
    exact gi_EvR rfl rfl
  · rw [if_neg c2] at hf
    refine gi_EvN 2 (pc' := 13) (lv' := [some (.ref x0), some (.int x1), some (.int x2), some (.int x3), some (.int y1)]) (st' := [.int y1, .ref x0]) (h' := h) rfl ?_
    by_cases c4 : gi_is h x0 0 = true
    rotate_left
    · rw [if_neg c4] at hf; cases hf
    rw [if_pos c4] at hf
    obtain ⟨y3, qy3, hf⟩ := gi_bind hf
    refine gi_EvCV rfl rfl c4 rfl rfl (e_X0_stands h _ _ _ qy3) ?_
    show gi_Ev M_X4_moreIn 16 [some (.ref x0), some (.int x1), some (.int x2), some (.int x3), some (.int y1)] [.int y3] h _
    refine gi_Ev_eq rfl (fun c5 => ?_) (fun c5 => ?_)
    · rw [if_pos c5] at hf
      refine gi_EvN 1 (pc' := 31) (lv' := [some (.ref x0), some (.int x1), some (.int x2), some (.int x3), some (.int y1)]) (st' := [.int 0]) (h' := h) rfl ?_
      cases hf
      exact gi_EvR rfl rfl
    · rw [if_neg c5] at hf
      refine gi_EvN 1 (pc' := 20) (lv' := [some (.ref x0), some (.int x1), some (.int x2), some (.int x3), some (.int y1)]) (st' := [.ref x0]) (h' := h) rfl ?_
      obtain ⟨y6, qy6, hf⟩ := gi_bind hf
      refine gi_EvF rfl (gi_fR_inv qy6) ?_
      refine gi_EvN 1 (pc' := 25) (lv' := [some (.ref x0), some (.int x1), some (.int x2), some (.int x3), some (.int y1)]) (st' := [.int y1, .ref y6]) (h' := h) rfl ?_
      obtain ⟨y7, qy7, hf⟩ := gi_bind hf
      refine gi_EvAi rfl qy7 ?_
      refine gi_EvN 1 (pc' := 27) (lv' := [some (.ref x0), some (.int x1), some (.int x2), some (.int x3), some (.int y1)]) (st' := [.int x3, .int y7]) (h' := h) rfl ?_
      refine gi_Ev_ieq rfl (fun c8 => ?_) (fun c8 => ?_)
      · rw [if_pos c8] at hf
        refine gi_EvN 1 (pc' := 33) (lv' := [some (.ref x0), some (.int x1), some (.int x2), some (.int x3), some (.int y1)]) (st' := [.int x1]) (h' := h) rfl ?_
        obtain ⟨y9, qy9, hf⟩ := gi_bind hf
        refine gi_EvCS rfl rfl rfl rfl rfl (e_X4_holderIn h _ _ qy9) ?_
        show gi_Ev M_X4_moreIn 36 [some (.ref x0), some (.int x1), some (.int x2), some (.int x3), some (.int y1)] [.int y9] h _
        refine gi_EvN 1 (pc' := 37) (lv' := [some (.ref x0), some (.int x1), some (.int x2), some (.int x3), some (.int y1)]) (st' := [.int x2, .int y9]) (h' := h) rfl ?_
        refine gi_Ev_ine rfl (fun c10 => ?_) (fun c10 => ?_)
        · rw [if_pos c10] at hf
          refine gi_EvN 1 (pc' := 41) (lv' := [some (.ref x0), some (.int x1), some (.int x2), some (.int x3), some (.int y1)]) (st' := [.ref x0]) (h' := h) rfl ?_
          obtain ⟨y11, qy11, hf⟩ := gi_bind hf
          refine gi_EvF rfl (gi_fR_inv qy11) ?_
          refine gi_EvN 1 (pc' := 46) (lv' := [some (.ref x0), some (.int x1), some (.int x2), some (.int x3), some (.int y1)]) (st' := [.int y1, .ref y11]) (h' := h) rfl ?_
          obtain ⟨y12, qy12, hf⟩ := gi_bind hf
          refine gi_EvAi rfl qy12 ?_
          cases hf
          exact gi_EvR rfl rfl
        · rw [if_neg c10] at hf
          refine gi_EvN 1 (pc' := 49) (lv' := [some (.ref x0), some (.int x1), some (.int x2), some (.int x3), some (.int y1)]) (st' := [.ref x0]) (h' := h) rfl ?_
          obtain ⟨y13, qy13, hf⟩ := gi_bind hf
          refine gi_EvF rfl (gi_fR_inv qy13) ?_
          refine gi_EvN 1 (pc' := 54) (lv' := [some (.ref x0), some (.int x1), some (.int x2), some (.int x3), some (.int y1)]) (st' := [.int y1, .ref y13]) (h' := h) rfl ?_
          obtain ⟨y14, qy14, hf⟩ := gi_bind hf
          refine gi_EvAi rfl qy14 ?_
          refine gi_EvN 1 (pc' := 56) (lv' := [some (.ref x0), some (.int x1), some (.int x2), some (.int x3), some (.int y1)]) (st' := [.int x2, .int y14]) (h' := h) rfl ?_
          refine gi_Ev_ine rfl (fun c15 => ?_) (fun c15 => ?_)
          · rw [if_pos c15] at hf
            refine gi_EvN 1 (pc' := 60) (lv' := [some (.ref x0), some (.int x1), some (.int x2), some (.int x3), some (.int y1)]) (st' := [.ref x0]) (h' := h) rfl ?_
            obtain ⟨y16, qy16, hf⟩ := gi_bind hf
            refine gi_EvF rfl (gi_fR_inv qy16) ?_
            refine gi_EvN 1 (pc' := 65) (lv' := [some (.ref x0), some (.int x1), some (.int x2), some (.int x3), some (.int y1)]) (st' := [.int y1, .ref y16]) (h' := h) rfl ?_
            obtain ⟨y17, qy17, hf⟩ := gi_bind hf
            refine gi_EvAi rfl qy17 ?_
            refine gi_EvN 2 (pc' := 71) (lv' := [some (.ref x0), some (.int x1), some (.int x2), some (.int x3), some (.int y1)]) (st' := [.int (-y17)]) (h' := h) rfl ?_
            cases hf
            exact gi_EvR rfl rfl
          · rw [if_neg c15] at hf
            refine gi_EvN 1 (pc' := 71) (lv' := [some (.ref x0), some (.int x1), some (.int x2), some (.int x3), some (.int y1)]) (st' := [.int 0]) (h' := h) rfl ?_
            cases hf
            exact gi_EvR rfl rfl
      · rw [if_neg c8] at hf
        refine gi_EvN 1 (pc' := 31) (lv' := [some (.ref x0), some (.int x1), some (.int x2), some (.int x3), some (.int y1)]) (st' := [.int 0]) (h' := h) rfl ?_
        cases hf
        exact gi_EvR rfl rfl
/-! X4_worldsThatSay AdmiralGuinea$Worlds.worldsThatSay(LAdmiralGuinea$Book;JI)J -/
def f_X4_worldsThatSay_32 (h : gi_H) : Nat → Nat → Int64 → Int32 → Int32 → Int32 → Int32 → Int64 → Int32 → Option Int64
  | 0, _, _, _, _, _, _, _, _ => none
  | n + 1, x0, x1, x3, x4, x5, x6, x7, x9 => if 49 ≤ x9 then some (x7)
  else if (lg_cmp ((x1 >>> (Int32.toInt64 x9 &&& 63)) &&& 1) 0) = 0 then f_X4_worldsThatSay_32 h n x0 x1 x3 x4 x5 x6 x7 (x9 + 1)
  else (f_X4_moreIn h x0 x9 x4 x5).bind fun y3 => (gi_fR h x0 0 14).bind fun y4 => (gi_ai h y4 0 x3).bind fun y5 => if (x6 + y3) = y5 then f_X4_worldsThatSay_32 h n x0 x1 x3 x4 x5 x6 (x7 ||| (1 <<< (Int32.toInt64 x9 &&& 63))) (x9 + 1)
  else f_X4_worldsThatSay_32 h n x0 x1 x3 x4 x5 x6 x7 (x9 + 1)
set_option maxRecDepth 20000 in
set_option maxHeartbeats 2000000 in
theorem e_X4_worldsThatSay_32 (h : gi_H) : ∀ (n : Nat) (g2 : Option Value) (g8 : Option Value) (x0 : Nat) (x1 : Int64) (x3 : Int32) (x4 : Int32) (x5 : Int32) (x6 : Int32) (x7 : Int64) (x9 : Int32) (r : Int64), f_X4_worldsThatSay_32 h n x0 x1 x3 x4 x5 x6 x7 x9 = some r → gi_Ev M_X4_worldsThatSay 32 [some (.ref x0), some (.long x1), g2, some (.int x3), some (.int x4), some (.int x5), some (.int x6), some (.long x7), g8, some (.int x9)] [] h (some (.long r), h) := by
  intro n
  induction n with
  | zero =>
    intro g2 g8 x0 x1 x3 x4 x5 x6 x7 x9 r hf
    unfold f_X4_worldsThatSay_32 at hf
    cases hf
  | succ n ih =>
    intro g2 g8 x0 x1 x3 x4 x5 x6 x7 x9 r hf
    unfold f_X4_worldsThatSay_32 at hf
    refine gi_EvN 2 (pc' := 36) (lv' := [some (.ref x0), some (.long x1), g2, some (.int x3), some (.int x4), some (.int x5), some (.int x6), some (.long x7), g8, some (.int x9)]) (st' := [.int 49, .int x9]) (h' := h) rfl ?_
    refine gi_Ev_ige rfl (fun c1 => ?_) (fun c1 => ?_)
    · rw [if_pos c1] at hf
      refine gi_EvN 1 (pc' := 89) (lv' := [some (.ref x0), some (.long x1), g2, some (.int x3), some (.int x4), some (.int x5), some (.int x6), some (.long x7), g8, some (.int x9)]) (st' := [.long x7]) (h' := h) rfl ?_
      cases hf
      exact gi_EvR rfl rfl
    · rw [if_neg c1] at hf
      refine gi_EvN 7 (pc' := 47) (lv' := [some (.ref x0), some (.long x1), g2, some (.int x3), some (.int x4), some (.int x5), some (.int x6), some (.long x7), g8, some (.int x9)]) (st' := [.int (lg_cmp ((x1 >>> (Int32.toInt64 x9 &&& 63)) &&& 1) 0)]) (h' := h) rfl ?_
      refine gi_Ev_eq rfl (fun c2 => ?_) (fun c2 => ?_)
      · rw [if_pos c2] at hf
        refine gi_EvN 2 (pc' := 32) (lv' := [some (.ref x0), some (.long x1), g2, some (.int x3), some (.int x4), some (.int x5), some (.int x6), some (.long x7), (gi_cl g8), some (.int (x9 + 1))]) (st' := []) (h' := h) rfl ?_
        exact ih _ _  _  _  _  _  _  _  _  _ _ hf
      · rw [if_neg c2] at hf
        refine gi_EvN 5 (pc' := 59) (lv' := [some (.ref x0), some (.long x1), g2, some (.int x3), some (.int x4), some (.int x5), some (.int x6), some (.long x7), g8, some (.int x9)]) (st' := [.int x5, .int x4, .int x9, .ref x0, .int x6]) (h' := h) rfl ?_
        obtain ⟨y3, qy3, hf⟩ := gi_bind hf
        refine gi_EvCS rfl rfl rfl rfl rfl (e_X4_moreIn h _ _ _ _ _ qy3) ?_
        show gi_Ev M_X4_worldsThatSay 62 [some (.ref x0), some (.long x1), g2, some (.int x3), some (.int x4), some (.int x5), some (.int x6), some (.long x7), g8, some (.int x9)] [.int y3, .int x6] h _
        refine gi_EvN 2 (pc' := 64) (lv' := [some (.ref x0), some (.long x1), g2, some (.int x3), some (.int x4), some (.int x5), some (.int x6), some (.long x7), g8, some (.int x9)]) (st' := [.ref x0, .int (x6 + y3)]) (h' := h) rfl ?_
        obtain ⟨y4, qy4, hf⟩ := gi_bind hf
        refine gi_EvF rfl (gi_fR_inv qy4) ?_
        refine gi_EvN 1 (pc' := 68) (lv' := [some (.ref x0), some (.long x1), g2, some (.int x3), some (.int x4), some (.int x5), some (.int x6), some (.long x7), g8, some (.int x9)]) (st' := [.int x3, .ref y4, .int (x6 + y3)]) (h' := h) rfl ?_
        obtain ⟨y5, qy5, hf⟩ := gi_bind hf
        refine gi_EvAi rfl qy5 ?_
        refine gi_Ev_ine rfl (fun c6 => ?_) (fun c6 => ?_)
        · rw [if_pos c6] at hf
          refine gi_EvN 8 (pc' := 32) (lv' := [some (.ref x0), some (.long x1), g2, some (.int x3), some (.int x4), some (.int x5), some (.int x6), some (.long (x7 ||| (1 <<< (Int32.toInt64 x9 &&& 63)))), none, some (.int (x9 + 1))]) (st' := []) (h' := h) rfl ?_
          exact ih _ _  _  _  _  _  _  _  _  _ _ hf
        · rw [if_neg c6] at hf
          refine gi_EvN 2 (pc' := 32) (lv' := [some (.ref x0), some (.long x1), g2, some (.int x3), some (.int x4), some (.int x5), some (.int x6), some (.long x7), (gi_cl g8), some (.int (x9 + 1))]) (st' := []) (h' := h) rfl ?_
          exact ih _ _  _  _  _  _  _  _  _  _ _ hf
def f_X4_worldsThatSay (h : gi_H) (x0 : Nat) (x1 : Int64) (x3 : Int32) : Option Int64 :=
  (gi_fR h x0 0 12).bind fun y1 => (gi_ai h y1 0 x3).bind fun y2 => (gi_fR h x0 0 13).bind fun y3 => (gi_ai h y3 0 x3).bind fun y4 => if gi_is h x0 0 = true then (f_X0_gainsOf h x0 y2 y4).bind fun y5 => f_X4_worldsThatSay_32 h gi_F x0 x1 x3 y2 y4 y5 0 0 else none
set_option maxRecDepth 20000 in
set_option maxHeartbeats 2000000 in
theorem e_X4_worldsThatSay (h : gi_H) (x0 : Nat) (x1 : Int64) (x3 : Int32) (r : Int64) (hf : f_X4_worldsThatSay h x0 x1 x3 = some r) : gi_Ev M_X4_worldsThatSay 0 [some (.ref x0), some (.long x1), none, some (.int x3), none, none, none, none, none, none] [] h (some (.long r), h) := by
  unfold f_X4_worldsThatSay at hf
  refine gi_EvN 1 (pc' := 1) (lv' := [some (.ref x0), some (.long x1), none, some (.int x3), none, none, none, none, none, none]) (st' := [.ref x0]) (h' := h) rfl ?_
  obtain ⟨y1, qy1, hf⟩ := gi_bind hf
  refine gi_EvF rfl (gi_fR_inv qy1) ?_
  refine gi_EvN 1 (pc' := 5) (lv' := [some (.ref x0), some (.long x1), none, some (.int x3), none, none, none, none, none, none]) (st' := [.int x3, .ref y1]) (h' := h) rfl ?_
  obtain ⟨y2, qy2, hf⟩ := gi_bind hf
  refine gi_EvAi rfl qy2 ?_
  refine gi_EvN 2 (pc' := 9) (lv' := [some (.ref x0), some (.long x1), none, some (.int x3), some (.int y2), none, none, none, none, none]) (st' := [.ref x0]) (h' := h) rfl ?_
  obtain ⟨y3, qy3, hf⟩ := gi_bind hf
  refine gi_EvF rfl (gi_fR_inv qy3) ?_
  refine gi_EvN 1 (pc' := 13) (lv' := [some (.ref x0), some (.long x1), none, some (.int x3), some (.int y2), none, none, none, none, none]) (st' := [.int x3, .ref y3]) (h' := h) rfl ?_
  obtain ⟨y4, qy4, hf⟩ := gi_bind hf
  refine gi_EvAi rfl qy4 ?_
  refine gi_EvN 4 (pc' := 21) (lv' := [some (.ref x0), some (.long x1), none, some (.int x3), some (.int y2), some (.int y4), none, none, none, none]) (st' := [.int y4, .int y2, .ref x0]) (h' := h) rfl ?_
  by_cases c6 : gi_is h x0 0 = true
  rotate_left
  · rw [if_neg c6] at hf; cases hf
  rw [if_pos c6] at hf
  obtain ⟨y5, qy5, hf⟩ := gi_bind hf
  refine gi_EvCV rfl rfl c6 rfl rfl (e_X0_gainsOf h _ _ _ _ qy5) ?_
  show gi_Ev M_X4_worldsThatSay 24 [some (.ref x0), some (.long x1), none, some (.int x3), some (.int y2), some (.int y4), none, none, none, none] [.int y5] h _
  refine gi_EvN 5 (pc' := 32) (lv' := [some (.ref x0), some (.long x1), none, some (.int x3), some (.int y2), some (.int y4), some (.int y5), some (.long 0), none, some (.int 0)]) (st' := []) (h' := h) rfl ?_
  exact e_X4_worldsThatSay_32 h gi_F _ _ _ _ _ _ _ _ _ _ _ hf
/-! X4_fitting AdmiralGuinea$Worlds.fitting(LAdmiralGuinea$Book;)J -/
def f_X4_fitting_8 (h : gi_H) : Nat → Nat → Int64 → Int32 → Option Int64
  | 0, _, _, _ => none
  | n + 1, x1, x2, x4 => (gi_fI h x1 0 5).bind fun y1 => if y1 ≤ x4 then some (x2)
  else if 8 ≤ x4 then some (x2)
  else (f_X4_worldsThatSay h x1 x2 x4).bind fun y4 => f_X4_fitting_8 h n x1 (x2 &&& y4) (x4 + 1)
set_option maxRecDepth 20000 in
set_option maxHeartbeats 2000000 in
theorem e_X4_fitting_8 (h : gi_H) : ∀ (n : Nat) (g0 : Option Value) (g3 : Option Value) (x1 : Nat) (x2 : Int64) (x4 : Int32) (r : Int64), f_X4_fitting_8 h n x1 x2 x4 = some r → gi_Ev M_X4_fitting 8 [g0, some (.ref x1), some (.long x2), g3, some (.int x4)] [] h (some (.long r), h) := by
  intro n
  induction n with
  | zero =>
    intro g0 g3 x1 x2 x4 r hf
    unfold f_X4_fitting_8 at hf
    cases hf
  | succ n ih =>
    intro g0 g3 x1 x2 x4 r hf
    unfold f_X4_fitting_8 at hf
    refine gi_EvN 2 (pc' := 11) (lv' := [g0, some (.ref x1), some (.long x2), g3, some (.int x4)]) (st' := [.ref x1, .int x4]) (h' := h) rfl ?_
    obtain ⟨y1, qy1, hf⟩ := gi_bind hf
    refine gi_EvF rfl (gi_fI_inv qy1) ?_
    refine gi_Ev_ige rfl (fun c2 => ?_) (fun c2 => ?_)
    · rw [if_pos c2] at hf
      refine gi_EvN 1 (pc' := 41) (lv' := [g0, some (.ref x1), some (.long x2), g3, some (.int x4)]) (st' := [.long x2]) (h' := h) rfl ?_
      cases hf
      exact gi_EvR rfl rfl
    · rw [if_neg c2] at hf
      refine gi_EvN 2 (pc' := 21) (lv' := [g0, some (.ref x1), some (.long x2), g3, some (.int x4)]) (st' := [.int 8, .int x4]) (h' := h) rfl ?_
      refine gi_Ev_ige rfl (fun c3 => ?_) (fun c3 => ?_)
      · rw [if_pos c3] at hf
        refine gi_EvN 1 (pc' := 41) (lv' := [g0, some (.ref x1), some (.long x2), g3, some (.int x4)]) (st' := [.long x2]) (h' := h) rfl ?_
        cases hf
        exact gi_EvR rfl rfl
      · rw [if_neg c3] at hf
        refine gi_EvN 4 (pc' := 29) (lv' := [g0, some (.ref x1), some (.long x2), g3, some (.int x4)]) (st' := [.int x4, .long x2, .ref x1, .long x2]) (h' := h) rfl ?_
        obtain ⟨y4, qy4, hf⟩ := gi_bind hf
        refine gi_EvCS rfl rfl rfl rfl rfl (e_X4_worldsThatSay h _ _ _ _ qy4) ?_
        show gi_Ev M_X4_fitting 32 [g0, some (.ref x1), some (.long x2), g3, some (.int x4)] [.long y4, .long x2] h _
        refine gi_EvN 4 (pc' := 8) (lv' := [g0, some (.ref x1), some (.long (x2 &&& y4)), none, some (.int (x4 + 1))]) (st' := []) (h' := h) rfl ?_
        exact ih _ _  _  _  _ _ hf
def f_X4_fitting (h : gi_H) (x0 : Nat) (x1 : Nat) : Option Int64 :=
  (f_X4_everyWorld h x1).bind fun y1 => f_X4_fitting_8 h gi_F x1 y1 0
set_option maxRecDepth 20000 in
set_option maxHeartbeats 2000000 in
theorem e_X4_fitting (h : gi_H) (x0 : Nat) (x1 : Nat) (r : Int64) (hf : f_X4_fitting h x0 x1 = some r) : gi_Ev M_X4_fitting 0 [some (.ref x0), some (.ref x1), none, none, none] [] h (some (.long r), h) := by
  unfold f_X4_fitting at hf
  refine gi_EvN 1 (pc' := 1) (lv' := [some (.ref x0), some (.ref x1), none, none, none]) (st' := [.ref x1]) (h' := h) rfl ?_
  obtain ⟨y1, qy1, hf⟩ := gi_bind hf
  refine gi_EvCS rfl rfl rfl rfl rfl (e_X4_everyWorld h _ _ qy1) ?_
  show gi_Ev M_X4_fitting 4 [some (.ref x0), some (.ref x1), none, none, none] [.long y1] h _
  refine gi_EvN 3 (pc' := 8) (lv' := [some (.ref x0), some (.ref x1), some (.long y1), none, some (.int 0)]) (st' := []) (h' := h) rfl ?_
  exact e_X4_fitting_8 h gi_F _ _ _ _ _ _ hf
/-! X4_movedIn AdmiralGuinea$Worlds.movedIn(J)I -/
def f_X4_movedIn_5 : Nat → Int64 → Int32 → Int32 → Option Int32
  | 0, _, _, _ => none
  | n + 1, x1, x3, x4 => if 49 ≤ x4 then some (x3)
  else if (lg_cmp ((x1 >>> (Int32.toInt64 x4 &&& 63)) &&& 1) 0) = 0 then f_X4_movedIn_5 n x1 x3 (x4 + 1)
  else (f_X4_policyOf x4).bind fun y3 => f_X4_movedIn_5 n x1 (x3 ||| (1 <<< (y3 &&& 31))) (x4 + 1)
set_option maxRecDepth 20000 in
set_option maxHeartbeats 2000000 in
theorem e_X4_movedIn_5 (h : gi_H) : ∀ (n : Nat) (g0 : Option Value) (g2 : Option Value) (x1 : Int64) (x3 : Int32) (x4 : Int32) (r : Int32), f_X4_movedIn_5 n x1 x3 x4 = some r → gi_Ev M_X4_movedIn 5 [g0, some (.long x1), g2, some (.int x3), some (.int x4)] [] h (some (.int r), h) := by
  intro n
  induction n with
  | zero =>
    intro g0 g2 x1 x3 x4 r hf
    unfold f_X4_movedIn_5 at hf
    cases hf
  | succ n ih =>
    intro g0 g2 x1 x3 x4 r hf
    unfold f_X4_movedIn_5 at hf
    refine gi_EvN 2 (pc' := 9) (lv' := [g0, some (.long x1), g2, some (.int x3), some (.int x4)]) (st' := [.int 49, .int x4]) (h' := h) rfl ?_
    refine gi_Ev_ige rfl (fun c1 => ?_) (fun c1 => ?_)
    · rw [if_pos c1] at hf
      refine gi_EvN 1 (pc' := 40) (lv' := [g0, some (.long x1), g2, some (.int x3), some (.int x4)]) (st' := [.int x3]) (h' := h) rfl ?_
      cases hf
      exact gi_EvR rfl rfl
    · rw [if_neg c1] at hf
      refine gi_EvN 7 (pc' := 20) (lv' := [g0, some (.long x1), g2, some (.int x3), some (.int x4)]) (st' := [.int (lg_cmp ((x1 >>> (Int32.toInt64 x4 &&& 63)) &&& 1) 0)]) (h' := h) rfl ?_
      refine gi_Ev_eq rfl (fun c2 => ?_) (fun c2 => ?_)
      · rw [if_pos c2] at hf
        refine gi_EvN 2 (pc' := 5) (lv' := [g0, some (.long x1), g2, some (.int x3), some (.int (x4 + 1))]) (st' := []) (h' := h) rfl ?_
        exact ih _ _  _  _  _ _ hf
      · rw [if_neg c2] at hf
        refine gi_EvN 3 (pc' := 27) (lv' := [g0, some (.long x1), g2, some (.int x3), some (.int x4)]) (st' := [.int x4, .int 1, .int x3]) (h' := h) rfl ?_
        obtain ⟨y3, qy3, hf⟩ := gi_bind hf
        refine gi_EvCS rfl rfl rfl rfl rfl (e_X4_policyOf h _ _ qy3) ?_
        show gi_Ev M_X4_movedIn 30 [g0, some (.long x1), g2, some (.int x3), some (.int x4)] [.int y3, .int 1, .int x3] h _
        refine gi_EvN 5 (pc' := 5) (lv' := [g0, some (.long x1), (gi_cl g2), some (.int (x3 ||| (1 <<< (y3 &&& 31)))), some (.int (x4 + 1))]) (st' := []) (h' := h) rfl ?_
        exact ih _ _  _  _  _ _ hf
def f_X4_movedIn (x0 : Nat) (x1 : Int64) : Option Int32 :=
  f_X4_movedIn_5 gi_F x1 0 1
set_option maxRecDepth 20000 in
set_option maxHeartbeats 2000000 in
theorem e_X4_movedIn (h : gi_H) (x0 : Nat) (x1 : Int64) (r : Int32) (hf : f_X4_movedIn x0 x1 = some r) : gi_Ev M_X4_movedIn 0 [some (.ref x0), some (.long x1), none, none, none] [] h (some (.int r), h) := by
  unfold f_X4_movedIn at hf
  refine gi_EvN 4 (pc' := 5) (lv' := [some (.ref x0), some (.long x1), none, some (.int 0), some (.int 1)]) (st' := []) (h' := h) rfl ?_
  exact e_X4_movedIn_5 h gi_F _ _ _ _ _ _ hf
/-! J9_max_7cf53 java/lang/Math.max(II)I -/
def f_J9_max_7cf53 (x0 : Int32) (x1 : Int32) : Option Int32 :=
  if x0 < x1 then some (x1)
  else some (x0)
set_option maxRecDepth 20000 in
set_option maxHeartbeats 2000000 in
theorem e_J9_max_7cf53 (h : gi_H) (x0 : Int32) (x1 : Int32) (r : Int32) (hf : f_J9_max_7cf53 x0 x1 = some r) : gi_Ev M_J9_max_7cf53 0 [some (.int x0), some (.int x1)] [] h (some (.int r), h) := by
  unfold f_J9_max_7cf53 at hf
  refine gi_EvN 2 (pc' := 2) (lv' := [some (.int x0), some (.int x1)]) (st' := [.int x1, .int x0]) (h' := h) rfl ?_
  refine gi_Ev_ilt rfl (fun c1 => ?_) (fun c1 => ?_)
  · rw [if_pos c1] at hf
    refine gi_EvN 1 (pc' := 10) (lv' := [some (.int x0), some (.int x1)]) (st' := [.int x1]) (h' := h) rfl ?_
    cases hf
    exact gi_EvR rfl rfl
  · rw [if_neg c1] at hf
    refine gi_EvN 2 (pc' := 10) (lv' := [some (.int x0), some (.int x1)]) (st' := [.int x0]) (h' := h) rfl ?_
    cases hf
    exact gi_EvR rfl rfl
/-! X4_mostLeft AdmiralGuinea$Worlds.mostLeft(LAdmiralGuinea$Book;JII)I -/
def f_X4_mostLeft_43 : Nat → gi_H → Nat → Nat → Int64 → Int32 → Int32 → Int32 → Int32 → Int32 → Option (Int32 × gi_H)
  | 0, _, _, _, _, _, _, _, _, _ => none
  | n + 1, h, x0, x1, x2, x4, x5, x6, x7, x8 => if 49 ≤ x8 then some (x7, h)
  else if (lg_cmp ((x2 >>> (Int32.toInt64 x8 &&& 63)) &&& 1) 0) = 0 then f_X4_mostLeft_43 n h x0 x1 x2 x4 x5 x6 x7 (x8 + 1)
  else (f_X4_moreIn h x1 x8 x4 x5).bind fun y3 => (gi_fR h x0 4 0).bind fun y4 => (gi_an h y4 0).bind fun y5 => (f_X5_isWithin ((x6 + y3) / 10) 0 ((Int32.ofNat y5) - 1)).bind fun y6 => if y6 = 0 then f_X4_mostLeft_43 n h x0 x1 x2 x4 x5 x6 x7 (x8 + 1)
  else (gi_fR h x0 4 0).bind fun y8 => (gi_ai h y8 0 ((x6 + y3) / 10)).bind fun y9 => (gi_pi h y8 0 ((x6 + y3) / 10) (y9 + 1)).bind fun h10 => (gi_fR h10 x0 4 0).bind fun y11 => (gi_ai h10 y11 0 ((x6 + y3) / 10)).bind fun y12 => (f_J9_max_7cf53 x7 y12).bind fun y13 => f_X4_mostLeft_43 n h10 x0 x1 x2 x4 x5 x6 y13 (x8 + 1)
set_option maxRecDepth 20000 in
set_option maxHeartbeats 2000000 in
theorem e_X4_mostLeft_43 : ∀ (n : Nat) (g3 : Option Value) (g9 : Option Value) (h : gi_H) (x0 : Nat) (x1 : Nat) (x2 : Int64) (x4 : Int32) (x5 : Int32) (x6 : Int32) (x7 : Int32) (x8 : Int32) (r : (Int32 × gi_H)), f_X4_mostLeft_43 n h x0 x1 x2 x4 x5 x6 x7 x8 = some r → gi_Ev M_X4_mostLeft 43 [some (.ref x0), some (.ref x1), some (.long x2), g3, some (.int x4), some (.int x5), some (.int x6), some (.int x7), some (.int x8), g9] [] h (some (.int r.1), r.2) := by
  intro n
  induction n with
  | zero =>
    intro g3 g9 h x0 x1 x2 x4 x5 x6 x7 x8 r hf
    unfold f_X4_mostLeft_43 at hf
    cases hf
  | succ n ih =>
    intro g3 g9 h x0 x1 x2 x4 x5 x6 x7 x8 r hf
    unfold f_X4_mostLeft_43 at hf
    refine gi_EvN 2 (pc' := 47) (lv' := [some (.ref x0), some (.ref x1), some (.long x2), g3, some (.int x4), some (.int x5), some (.int x6), some (.int x7), some (.int x8), g9]) (st' := [.int 49, .int x8]) (h' := h) rfl ?_
    refine gi_Ev_ige rfl (fun c1 => ?_) (fun c1 => ?_)
    · rw [if_pos c1] at hf
      refine gi_EvN 1 (pc' := 128) (lv' := [some (.ref x0), some (.ref x1), some (.long x2), g3, some (.int x4), some (.int x5), some (.int x6), some (.int x7), some (.int x8), g9]) (st' := [.int x7]) (h' := h) rfl ?_
      cases hf
      exact gi_EvR rfl rfl
    · rw [if_neg c1] at hf
      refine gi_EvN 7 (pc' := 58) (lv' := [some (.ref x0), some (.ref x1), some (.long x2), g3, some (.int x4), some (.int x5), some (.int x6), some (.int x7), some (.int x8), g9]) (st' := [.int (lg_cmp ((x2 >>> (Int32.toInt64 x8 &&& 63)) &&& 1) 0)]) (h' := h) rfl ?_
      refine gi_Ev_eq rfl (fun c2 => ?_) (fun c2 => ?_)
      · rw [if_pos c2] at hf
        refine gi_EvN 2 (pc' := 43) (lv' := [some (.ref x0), some (.ref x1), some (.long x2), g3, some (.int x4), some (.int x5), some (.int x6), some (.int x7), some (.int (x8 + 1)), g9]) (st' := []) (h' := h) rfl ?_
        exact ih _ _ _ _  _  _  _  _  _  _  _ _ hf
      · rw [if_neg c2] at hf
        refine gi_EvN 5 (pc' := 70) (lv' := [some (.ref x0), some (.ref x1), some (.long x2), g3, some (.int x4), some (.int x5), some (.int x6), some (.int x7), some (.int x8), g9]) (st' := [.int x5, .int x4, .int x8, .ref x1, .int x6]) (h' := h) rfl ?_
        obtain ⟨y3, qy3, hf⟩ := gi_bind hf
        refine gi_EvCS rfl rfl rfl rfl rfl (e_X4_moreIn h _ _ _ _ _ qy3) ?_
        show gi_Ev M_X4_mostLeft 73 [some (.ref x0), some (.ref x1), some (.long x2), g3, some (.int x4), some (.int x5), some (.int x6), some (.int x7), some (.int x8), g9] [.int y3, .int x6] h _
        refine gi_EvN 2 (pc' := 76) (lv' := [some (.ref x0), some (.ref x1), some (.long x2), g3, some (.int x4), some (.int x5), some (.int x6), some (.int x7), some (.int x8), g9]) (st' := [.int 10, .int (x6 + y3)]) (h' := h) rfl ?_
        refine gi_EvDi rfl (by decide) ?_
        refine gi_EvN 4 (pc' := 83) (lv' := [some (.ref x0), some (.ref x1), some (.long x2), g3, some (.int x4), some (.int x5), some (.int x6), some (.int x7), some (.int x8), some (.int ((x6 + y3) / 10))]) (st' := [.ref x0, .int 0, .int ((x6 + y3) / 10)]) (h' := h) rfl ?_
        obtain ⟨y4, qy4, hf⟩ := gi_bind hf
        refine gi_EvF rfl (gi_fR_inv qy4) ?_
        obtain ⟨y5, qy5, hf⟩ := gi_bind hf
        refine gi_EvAn rfl qy5 ?_
        refine gi_EvN 2 (pc' := 89) (lv' := [some (.ref x0), some (.ref x1), some (.long x2), g3, some (.int x4), some (.int x5), some (.int x6), some (.int x7), some (.int x8), some (.int ((x6 + y3) / 10))]) (st' := [.int ((Int32.ofNat y5) - 1), .int 0, .int ((x6 + y3) / 10)]) (h' := h) rfl ?_
        obtain ⟨y6, qy6, hf⟩ := gi_bind hf
        refine gi_EvCS rfl rfl rfl rfl rfl (e_X5_isWithin h _ _ _ _ qy6) ?_
        show gi_Ev M_X4_mostLeft 92 [some (.ref x0), some (.ref x1), some (.long x2), g3, some (.int x4), some (.int x5), some (.int x6), some (.int x7), some (.int x8), some (.int ((x6 + y3) / 10))] [.int y6] h _
        refine gi_Ev_eq rfl (fun c7 => ?_) (fun c7 => ?_)
        · rw [if_pos c7] at hf
          refine gi_EvN 2 (pc' := 43) (lv' := [some (.ref x0), some (.ref x1), some (.long x2), g3, some (.int x4), some (.int x5), some (.int x6), some (.int x7), some (.int (x8 + 1)), some (.int ((x6 + y3) / 10))]) (st' := []) (h' := h) rfl ?_
          exact ih _ _ _ _  _  _  _  _  _  _  _ _ hf
        · rw [if_neg c7] at hf
          refine gi_EvN 1 (pc' := 96) (lv' := [some (.ref x0), some (.ref x1), some (.long x2), g3, some (.int x4), some (.int x5), some (.int x6), some (.int x7), some (.int x8), some (.int ((x6 + y3) / 10))]) (st' := [.ref x0]) (h' := h) rfl ?_
          obtain ⟨y8, qy8, hf⟩ := gi_bind hf
          refine gi_EvF rfl (gi_fR_inv qy8) ?_
          refine gi_EvN 2 (pc' := 102) (lv' := [some (.ref x0), some (.ref x1), some (.long x2), g3, some (.int x4), some (.int x5), some (.int x6), some (.int x7), some (.int x8), some (.int ((x6 + y3) / 10))]) (st' := [.int ((x6 + y3) / 10), .ref y8, .int ((x6 + y3) / 10), .ref y8]) (h' := h) rfl ?_
          obtain ⟨y9, qy9, hf⟩ := gi_bind hf
          refine gi_EvAi rfl qy9 ?_
          refine gi_EvN 2 (pc' := 105) (lv' := [some (.ref x0), some (.ref x1), some (.long x2), g3, some (.int x4), some (.int x5), some (.int x6), some (.int x7), some (.int x8), some (.int ((x6 + y3) / 10))]) (st' := [.int (y9 + 1), .int ((x6 + y3) / 10), .ref y8]) (h' := h) rfl ?_
          obtain ⟨h10, qh10, hf⟩ := gi_bind hf
          refine gi_EvPi rfl qh10 ?_
          refine gi_EvN 2 (pc' := 109) (lv' := [some (.ref x0), some (.ref x1), some (.long x2), g3, some (.int x4), some (.int x5), some (.int x6), some (.int x7), some (.int x8), some (.int ((x6 + y3) / 10))]) (st' := [.ref x0, .int x7]) (h' := h10) rfl ?_
          obtain ⟨y11, qy11, hf⟩ := gi_bind hf
          refine gi_EvF rfl (gi_fR_inv qy11) ?_
          refine gi_EvN 1 (pc' := 114) (lv' := [some (.ref x0), some (.ref x1), some (.long x2), g3, some (.int x4), some (.int x5), some (.int x6), some (.int x7), some (.int x8), some (.int ((x6 + y3) / 10))]) (st' := [.int ((x6 + y3) / 10), .ref y11, .int x7]) (h' := h10) rfl ?_
          obtain ⟨y12, qy12, hf⟩ := gi_bind hf
          refine gi_EvAi rfl qy12 ?_
          obtain ⟨y13, qy13, hf⟩ := gi_bind hf
          refine gi_EvCS rfl rfl rfl rfl rfl (e_J9_max_7cf53 h10 _ _ _ qy13) ?_
          show gi_Ev M_X4_mostLeft 118 [some (.ref x0), some (.ref x1), some (.long x2), g3, some (.int x4), some (.int x5), some (.int x6), some (.int x7), some (.int x8), some (.int ((x6 + y3) / 10))] [.int y13] h10 _
          refine gi_EvN 3 (pc' := 43) (lv' := [some (.ref x0), some (.ref x1), some (.long x2), g3, some (.int x4), some (.int x5), some (.int x6), some (.int y13), some (.int (x8 + 1)), some (.int ((x6 + y3) / 10))]) (st' := []) (h' := h10) rfl ?_
          exact ih _ _ _ _  _  _  _  _  _  _  _ _ hf
def f_X4_mostLeft_27 (h : gi_H) (x0 : Nat) (x1 : Nat) (x2 : Int64) (x4 : Int32) (x5 : Int32) : Option (Int32 × gi_H) :=
  if gi_is h x1 0 = true then (f_X0_gainsOf h x1 x4 x5).bind fun y1 => f_X4_mostLeft_43 gi_F h x0 x1 x2 x4 x5 y1 0 0 else none
set_option maxRecDepth 20000 in
set_option maxHeartbeats 2000000 in
theorem e_X4_mostLeft_27 (g3 : Option Value) (g6 : Option Value) (g7 : Option Value) (g8 : Option Value) (g9 : Option Value) (h : gi_H) (x0 : Nat) (x1 : Nat) (x2 : Int64) (x4 : Int32) (x5 : Int32) (r : (Int32 × gi_H)) (hf : f_X4_mostLeft_27 h x0 x1 x2 x4 x5 = some r) : gi_Ev M_X4_mostLeft 27 [some (.ref x0), some (.ref x1), some (.long x2), g3, some (.int x4), some (.int x5), g6, g7, g8, g9] [] h (some (.int r.1), r.2) := by
  unfold f_X4_mostLeft_27 at hf
  refine gi_EvN 3 (pc' := 32) (lv' := [some (.ref x0), some (.ref x1), some (.long x2), g3, some (.int x4), some (.int x5), g6, g7, g8, g9]) (st' := [.int x5, .int x4, .ref x1]) (h' := h) rfl ?_
  by_cases c2 : gi_is h x1 0 = true
  rotate_left
  · rw [if_neg c2] at hf; cases hf
  rw [if_pos c2] at hf
  obtain ⟨y1, qy1, hf⟩ := gi_bind hf
  refine gi_EvCV rfl rfl c2 rfl rfl (e_X0_gainsOf h _ _ _ _ qy1) ?_
  show gi_Ev M_X4_mostLeft 35 [some (.ref x0), some (.ref x1), some (.long x2), g3, some (.int x4), some (.int x5), g6, g7, g8, g9] [.int y1] h _
  refine gi_EvN 5 (pc' := 43) (lv' := [some (.ref x0), some (.ref x1), some (.long x2), g3, some (.int x4), some (.int x5), some (.int y1), some (.int 0), some (.int 0), g9]) (st' := []) (h' := h) rfl ?_
  exact e_X4_mostLeft_43 gi_F _ _ h _ _ _ _ _ _ _ _ _ hf
def f_X4_mostLeft_3 : Nat → gi_H → Nat → Nat → Int64 → Int32 → Int32 → Int32 → Option (Int32 × gi_H)
  | 0, _, _, _, _, _, _, _ => none
  | n + 1, h, x0, x1, x2, x4, x5, x6 => (gi_fR h x0 4 0).bind fun y1 => (gi_an h y1 0).bind fun y2 => if (Int32.ofNat y2) ≤ x6 then f_X4_mostLeft_27 h x0 x1 x2 x4 x5
  else (gi_fR h x0 4 0).bind fun y4 => (gi_pi h y4 0 x6 0).bind fun h5 => f_X4_mostLeft_3 n h5 x0 x1 x2 x4 x5 (x6 + 1)
set_option maxRecDepth 20000 in
set_option maxHeartbeats 2000000 in
theorem e_X4_mostLeft_3 : ∀ (n : Nat) (g3 : Option Value) (g7 : Option Value) (g8 : Option Value) (g9 : Option Value) (h : gi_H) (x0 : Nat) (x1 : Nat) (x2 : Int64) (x4 : Int32) (x5 : Int32) (x6 : Int32) (r : (Int32 × gi_H)), f_X4_mostLeft_3 n h x0 x1 x2 x4 x5 x6 = some r → gi_Ev M_X4_mostLeft 3 [some (.ref x0), some (.ref x1), some (.long x2), g3, some (.int x4), some (.int x5), some (.int x6), g7, g8, g9] [] h (some (.int r.1), r.2) := by
  intro n
  induction n with
  | zero =>
    intro g3 g7 g8 g9 h x0 x1 x2 x4 x5 x6 r hf
    unfold f_X4_mostLeft_3 at hf
    cases hf
  | succ n ih =>
    intro g3 g7 g8 g9 h x0 x1 x2 x4 x5 x6 r hf
    unfold f_X4_mostLeft_3 at hf
    refine gi_EvN 2 (pc' := 6) (lv' := [some (.ref x0), some (.ref x1), some (.long x2), g3, some (.int x4), some (.int x5), some (.int x6), g7, g8, g9]) (st' := [.ref x0, .int x6]) (h' := h) rfl ?_
    obtain ⟨y1, qy1, hf⟩ := gi_bind hf
    refine gi_EvF rfl (gi_fR_inv qy1) ?_
    obtain ⟨y2, qy2, hf⟩ := gi_bind hf
    refine gi_EvAn rfl qy2 ?_
    refine gi_Ev_ige rfl (fun c3 => ?_) (fun c3 => ?_)
    · rw [if_pos c3] at hf
      exact e_X4_mostLeft_27 _ _ _ _ _ h _ _ _ _ _ _ hf
    · rw [if_neg c3] at hf
      refine gi_EvN 1 (pc' := 14) (lv' := [some (.ref x0), some (.ref x1), some (.long x2), g3, some (.int x4), some (.int x5), some (.int x6), g7, g8, g9]) (st' := [.ref x0]) (h' := h) rfl ?_
      obtain ⟨y4, qy4, hf⟩ := gi_bind hf
      refine gi_EvF rfl (gi_fR_inv qy4) ?_
      refine gi_EvN 2 (pc' := 20) (lv' := [some (.ref x0), some (.ref x1), some (.long x2), g3, some (.int x4), some (.int x5), some (.int x6), g7, g8, g9]) (st' := [.int 0, .int x6, .ref y4]) (h' := h) rfl ?_
      obtain ⟨h5, qh5, hf⟩ := gi_bind hf
      refine gi_EvPi rfl qh5 ?_
      refine gi_EvN 2 (pc' := 3) (lv' := [some (.ref x0), some (.ref x1), some (.long x2), g3, some (.int x4), some (.int x5), some (.int (x6 + 1)), g7, g8, g9]) (st' := []) (h' := h5) rfl ?_
      exact ih _ _ _ _ _ _  _  _  _  _  _ _ hf
def f_X4_mostLeft (h : gi_H) (x0 : Nat) (x1 : Nat) (x2 : Int64) (x4 : Int32) (x5 : Int32) : Option (Int32 × gi_H) :=
  f_X4_mostLeft_3 gi_F h x0 x1 x2 x4 x5 0
set_option maxRecDepth 20000 in
set_option maxHeartbeats 2000000 in
theorem e_X4_mostLeft (h : gi_H) (x0 : Nat) (x1 : Nat) (x2 : Int64) (x4 : Int32) (x5 : Int32) (r : (Int32 × gi_H)) (hf : f_X4_mostLeft h x0 x1 x2 x4 x5 = some r) : gi_Ev M_X4_mostLeft 0 [some (.ref x0), some (.ref x1), some (.long x2), none, some (.int x4), some (.int x5), none, none, none, none] [] h (some (.int r.1), r.2) := by
  unfold f_X4_mostLeft at hf
  refine gi_EvN 2 (pc' := 3) (lv' := [some (.ref x0), some (.ref x1), some (.long x2), none, some (.int x4), some (.int x5), some (.int 0), none, none, none]) (st' := []) (h' := h) rfl ?_
  exact e_X4_mostLeft_3 gi_F _ _ _ _ h _ _ _ _ _ _ _ hf
/-! X5_init AdmiralGuinea.<init>()V -/
def f_X5_init (h : gi_H) (x0 : Nat) : Option gi_H :=
  (gi_new h (.inr (0, gi_dfX0))).bind fun h1 => (f_X0_init h1 (List.length h)).bind fun h2 => (gi_fp h2 x0 5 0 (.ref (List.length h))).bind fun h3 => (gi_new h3 (.inr (1, gi_dfX1))).bind fun h4 => (f_X1_init h4 (List.length h3)).bind fun h5 => (gi_fp h5 x0 5 1 (.ref (List.length h3))).bind fun h6 => (gi_new h6 (.inr (3, gi_dfX3))).bind fun h7 => (f_X3_init h7 (List.length h6)).bind fun h8 => (gi_fp h8 x0 5 2 (.ref (List.length h6))).bind fun h9 => (gi_new h9 (.inr (2, gi_dfX2))).bind fun h10 => (f_X2_init h10 (List.length h9)).bind fun h11 => (gi_fp h11 x0 5 3 (.ref (List.length h9))).bind fun h12 => (gi_new h12 (.inr (4, gi_dfX4))).bind fun h13 => (f_X4_init h13 (List.length h12)).bind fun h14 => (gi_fp h14 x0 5 4 (.ref (List.length h12))).bind fun h15 => (gi_new h15 (gi_na 3 2)).bind fun h16 => (gi_fp h16 x0 5 5 (.ref (List.length h15))).bind fun h17 => some h17
set_option maxRecDepth 20000 in
set_option maxHeartbeats 2000000 in
theorem e_X5_init (h : gi_H) (x0 : Nat) (r : gi_H) (hf : f_X5_init h x0 = some r) : gi_Ev M_X5_init 0 [some (.ref x0)] [] h (none, r) := by
  unfold f_X5_init at hf
  refine gi_EvN 3 (pc' := 5) (lv' := [some (.ref x0)]) (st' := [.ref x0]) (h' := h) rfl ?_
  obtain ⟨h1, qh1, hf⟩ := gi_bind hf
  refine gi_EvNew rfl qh1 ?_
  refine gi_EvN 1 (pc' := 9) (lv' := [some (.ref x0)]) (st' := [.ref (List.length h), .ref (List.length h), .ref x0]) (h' := h1) rfl ?_
  obtain ⟨h2, qh2, hf⟩ := gi_bind hf
  refine gi_EvCI rfl rfl rfl rfl rfl (e_X0_init h1 _ _ qh2) ?_
  show gi_Ev M_X5_init 12 [some (.ref x0)] [.ref (List.length h), .ref x0] h2 _
  obtain ⟨h3, qh3, hf⟩ := gi_bind hf
  refine gi_EvFp rfl rfl qh3 ?_
  refine gi_EvN 1 (pc' := 16) (lv' := [some (.ref x0)]) (st' := [.ref x0]) (h' := h3) rfl ?_
  obtain ⟨h4, qh4, hf⟩ := gi_bind hf
  refine gi_EvNew rfl qh4 ?_
  refine gi_EvN 1 (pc' := 20) (lv' := [some (.ref x0)]) (st' := [.ref (List.length h3), .ref (List.length h3), .ref x0]) (h' := h4) rfl ?_
  obtain ⟨h5, qh5, hf⟩ := gi_bind hf
  refine gi_EvCI rfl rfl rfl rfl rfl (e_X1_init h4 _ _ qh5) ?_
  show gi_Ev M_X5_init 23 [some (.ref x0)] [.ref (List.length h3), .ref x0] h5 _
  obtain ⟨h6, qh6, hf⟩ := gi_bind hf
  refine gi_EvFp rfl rfl qh6 ?_
  refine gi_EvN 1 (pc' := 27) (lv' := [some (.ref x0)]) (st' := [.ref x0]) (h' := h6) rfl ?_
  obtain ⟨h7, qh7, hf⟩ := gi_bind hf
  refine gi_EvNew rfl qh7 ?_
  refine gi_EvN 1 (pc' := 31) (lv' := [some (.ref x0)]) (st' := [.ref (List.length h6), .ref (List.length h6), .ref x0]) (h' := h7) rfl ?_
  obtain ⟨h8, qh8, hf⟩ := gi_bind hf
  refine gi_EvCI rfl rfl rfl rfl rfl (e_X3_init h7 _ _ qh8) ?_
  show gi_Ev M_X5_init 34 [some (.ref x0)] [.ref (List.length h6), .ref x0] h8 _
  obtain ⟨h9, qh9, hf⟩ := gi_bind hf
  refine gi_EvFp rfl rfl qh9 ?_
  refine gi_EvN 1 (pc' := 38) (lv' := [some (.ref x0)]) (st' := [.ref x0]) (h' := h9) rfl ?_
  obtain ⟨h10, qh10, hf⟩ := gi_bind hf
  refine gi_EvNew rfl qh10 ?_
  refine gi_EvN 1 (pc' := 42) (lv' := [some (.ref x0)]) (st' := [.ref (List.length h9), .ref (List.length h9), .ref x0]) (h' := h10) rfl ?_
  obtain ⟨h11, qh11, hf⟩ := gi_bind hf
  refine gi_EvCI rfl rfl rfl rfl rfl (e_X2_init h10 _ _ qh11) ?_
  show gi_Ev M_X5_init 45 [some (.ref x0)] [.ref (List.length h9), .ref x0] h11 _
  obtain ⟨h12, qh12, hf⟩ := gi_bind hf
  refine gi_EvFp rfl rfl qh12 ?_
  refine gi_EvN 1 (pc' := 49) (lv' := [some (.ref x0)]) (st' := [.ref x0]) (h' := h12) rfl ?_
  obtain ⟨h13, qh13, hf⟩ := gi_bind hf
  refine gi_EvNew rfl qh13 ?_
  refine gi_EvN 1 (pc' := 53) (lv' := [some (.ref x0)]) (st' := [.ref (List.length h12), .ref (List.length h12), .ref x0]) (h' := h13) rfl ?_
  obtain ⟨h14, qh14, hf⟩ := gi_bind hf
  refine gi_EvCI rfl rfl rfl rfl rfl (e_X4_init h13 _ _ qh14) ?_
  show gi_Ev M_X5_init 56 [some (.ref x0)] [.ref (List.length h12), .ref x0] h14 _
  obtain ⟨h15, qh15, hf⟩ := gi_bind hf
  refine gi_EvFp rfl rfl qh15 ?_
  refine gi_EvN 2 (pc' := 61) (lv' := [some (.ref x0)]) (st' := [.int 2, .ref x0]) (h' := h15) rfl ?_
  obtain ⟨h16, qh16, hf⟩ := gi_bind hf
  refine gi_EvAnw (N := 2) rfl (by decide) (by decide) (by decide) qh16 ?_
  obtain ⟨h17, qh17, hf⟩ := gi_bind hf
  refine gi_EvFp rfl rfl qh17 ?_
  cases hf
  exact gi_EvR rfl rfl
/-! X5_odds AdmiralGuinea.odds(II)I -/
def f_X5_odds (h : gi_H) (x0 : Nat) (x1 : Int32) (x2 : Int32) : Option (Int32 × gi_H) :=
  (f_X5_isLife x1).bind fun y1 => if y1 = 0 then some ((-1), h)
  else (f_X5_isWithin x2 0 9).bind fun y3 => if y3 = 0 then some ((-2), h)
  else (gi_fR h x0 5 0).bind fun y5 => (gi_fR h y5 0 6).bind fun y6 => (gi_ai h y6 0 x1).bind fun y7 => (gi_fR h x0 5 0).bind fun y8 => (gi_fR h y8 0 6).bind fun y9 => (gi_pi h y9 0 x1 x2).bind fun h10 => some (y7, h10)
set_option maxRecDepth 20000 in
set_option maxHeartbeats 2000000 in
theorem e_X5_odds (h : gi_H) (x0 : Nat) (x1 : Int32) (x2 : Int32) (r : (Int32 × gi_H)) (hf : f_X5_odds h x0 x1 x2 = some r) : gi_Ev M_X5_odds 0 [some (.ref x0), some (.int x1), some (.int x2), none] [] h (some (.int r.1), r.2) := by
  unfold f_X5_odds at hf
  refine gi_EvN 1 (pc' := 1) (lv' := [some (.ref x0), some (.int x1), some (.int x2), none]) (st' := [.int x1]) (h' := h) rfl ?_
  obtain ⟨y1, qy1, hf⟩ := gi_bind hf
  refine gi_EvCS rfl rfl rfl rfl rfl (e_X5_isLife h _ _ qy1) ?_
  show gi_Ev M_X5_odds 4 [some (.ref x0), some (.int x1), some (.int x2), none] [.int y1] h _
  refine gi_Ev_ne rfl (fun c2 => ?_) (fun c2 => ?_)
  · rw [if_pos c2] at hf
    refine gi_EvN 1 (pc' := 8) (lv' := [some (.ref x0), some (.int x1), some (.int x2), none]) (st' := [.int (-1)]) (h' := h) rfl ?_
    cases hf
    exact gi_EvR rfl rfl
  · rw [if_neg c2] at hf
    refine gi_EvN 3 (pc' := 13) (lv' := [some (.ref x0), some (.int x1), some (.int x2), none]) (st' := [.int 9, .int 0, .int x2]) (h' := h) rfl ?_
    obtain ⟨y3, qy3, hf⟩ := gi_bind hf
    refine gi_EvCS rfl rfl rfl rfl rfl (e_X5_isWithin h _ _ _ _ qy3) ?_
    show gi_Ev M_X5_odds 16 [some (.ref x0), some (.int x1), some (.int x2), none] [.int y3] h _
    refine gi_Ev_ne rfl (fun c4 => ?_) (fun c4 => ?_)
    · rw [if_pos c4] at hf
      refine gi_EvN 1 (pc' := 21) (lv' := [some (.ref x0), some (.int x1), some (.int x2), none]) (st' := [.int (-2)]) (h' := h) rfl ?_
      cases hf
      exact gi_EvR rfl rfl
    · rw [if_neg c4] at hf
      refine gi_EvN 1 (pc' := 23) (lv' := [some (.ref x0), some (.int x1), some (.int x2), none]) (st' := [.ref x0]) (h' := h) rfl ?_
      obtain ⟨y5, qy5, hf⟩ := gi_bind hf
      refine gi_EvF rfl (gi_fR_inv qy5) ?_
      obtain ⟨y6, qy6, hf⟩ := gi_bind hf
      refine gi_EvF rfl (gi_fR_inv qy6) ?_
      refine gi_EvN 1 (pc' := 30) (lv' := [some (.ref x0), some (.int x1), some (.int x2), none]) (st' := [.int x1, .ref y6]) (h' := h) rfl ?_
      obtain ⟨y7, qy7, hf⟩ := gi_bind hf
      refine gi_EvAi rfl qy7 ?_
      refine gi_EvN 2 (pc' := 33) (lv' := [some (.ref x0), some (.int x1), some (.int x2), some (.int y7)]) (st' := [.ref x0]) (h' := h) rfl ?_
      obtain ⟨y8, qy8, hf⟩ := gi_bind hf
      refine gi_EvF rfl (gi_fR_inv qy8) ?_
      obtain ⟨y9, qy9, hf⟩ := gi_bind hf
      refine gi_EvF rfl (gi_fR_inv qy9) ?_
      refine gi_EvN 2 (pc' := 41) (lv' := [some (.ref x0), some (.int x1), some (.int x2), some (.int y7)]) (st' := [.int x2, .int x1, .ref y9]) (h' := h) rfl ?_
      obtain ⟨h10, qh10, hf⟩ := gi_bind hf
      refine gi_EvPi rfl qh10 ?_
      refine gi_EvN 1 (pc' := 43) (lv' := [some (.ref x0), some (.int x1), some (.int x2), some (.int y7)]) (st' := [.int y7]) (h' := h10) rfl ?_
      cases hf
      exact gi_EvR rfl rfl
/-! X5_heir AdmiralGuinea.heir(I)I -/
def f_X5_heir (h : gi_H) (x0 : Nat) (x1 : Int32) : Option (Int32 × gi_H) :=
  (f_X5_isLife x1).bind fun y1 => if y1 = 0 then some ((-1), h)
  else (gi_fR h x0 5 0).bind fun y3 => if gi_is h y3 0 = true then (f_X0_hasEnded h y3 x1).bind fun y4 => if y4 = 0 then some ((-3), h)
  else (gi_fR h x0 5 0).bind fun y7 => (gi_fI h y7 0 2).bind fun y8 => (gi_fp h y7 0 2 (.int (y8 &&& ((1 <<< (x1 &&& 31)) ^^^ (-1))))).bind fun h9 => (gi_fR h9 x0 5 0).bind fun y10 => if gi_is h9 y10 0 = true then (f_X0_livesLeft h9 y10).bind fun y11 => some (y11, h9) else none else none
set_option maxRecDepth 20000 in
set_option maxHeartbeats 2000000 in
theorem e_X5_heir (h : gi_H) (x0 : Nat) (x1 : Int32) (r : (Int32 × gi_H)) (hf : f_X5_heir h x0 x1 = some r) : gi_Ev M_X5_heir 0 [some (.ref x0), some (.int x1)] [] h (some (.int r.1), r.2) := by
  unfold f_X5_heir at hf
  refine gi_EvN 1 (pc' := 1) (lv' := [some (.ref x0), some (.int x1)]) (st' := [.int x1]) (h' := h) rfl ?_
  obtain ⟨y1, qy1, hf⟩ := gi_bind hf
  refine gi_EvCS rfl rfl rfl rfl rfl (e_X5_isLife h _ _ qy1) ?_
  show gi_Ev M_X5_heir 4 [some (.ref x0), some (.int x1)] [.int y1] h _
  refine gi_Ev_ne rfl (fun c2 => ?_) (fun c2 => ?_)
  · rw [if_pos c2] at hf
    refine gi_EvN 1 (pc' := 8) (lv' := [some (.ref x0), some (.int x1)]) (st' := [.int (-1)]) (h' := h) rfl ?_
    cases hf
    exact gi_EvR rfl rfl
  · rw [if_neg c2] at hf
    refine gi_EvN 1 (pc' := 10) (lv' := [some (.ref x0), some (.int x1)]) (st' := [.ref x0]) (h' := h) rfl ?_
    obtain ⟨y3, qy3, hf⟩ := gi_bind hf
    refine gi_EvF rfl (gi_fR_inv qy3) ?_
    refine gi_EvN 1 (pc' := 14) (lv' := [some (.ref x0), some (.int x1)]) (st' := [.int x1, .ref y3]) (h' := h) rfl ?_
    by_cases c5 : gi_is h y3 0 = true
    rotate_left
    · rw [if_neg c5] at hf; cases hf
    rw [if_pos c5] at hf
    obtain ⟨y4, qy4, hf⟩ := gi_bind hf
    refine gi_EvCV rfl rfl c5 rfl rfl (e_X0_hasEnded h _ _ _ qy4) ?_
    show gi_Ev M_X5_heir 17 [some (.ref x0), some (.int x1)] [.int y4] h _
    refine gi_Ev_ne rfl (fun c6 => ?_) (fun c6 => ?_)
    · rw [if_pos c6] at hf
      refine gi_EvN 1 (pc' := 22) (lv' := [some (.ref x0), some (.int x1)]) (st' := [.int (-3)]) (h' := h) rfl ?_
      cases hf
      exact gi_EvR rfl rfl
    · rw [if_neg c6] at hf
      refine gi_EvN 1 (pc' := 24) (lv' := [some (.ref x0), some (.int x1)]) (st' := [.ref x0]) (h' := h) rfl ?_
      obtain ⟨y7, qy7, hf⟩ := gi_bind hf
      refine gi_EvF rfl (gi_fR_inv qy7) ?_
      refine gi_EvN 1 (pc' := 28) (lv' := [some (.ref x0), some (.int x1)]) (st' := [.ref y7, .ref y7]) (h' := h) rfl ?_
      obtain ⟨y8, qy8, hf⟩ := gi_bind hf
      refine gi_EvF rfl (gi_fI_inv qy8) ?_
      refine gi_EvN 6 (pc' := 37) (lv' := [some (.ref x0), some (.int x1)]) (st' := [.int (y8 &&& ((1 <<< (x1 &&& 31)) ^^^ (-1))), .ref y7]) (h' := h) rfl ?_
      obtain ⟨h9, qh9, hf⟩ := gi_bind hf
      refine gi_EvFp rfl rfl qh9 ?_
      refine gi_EvN 1 (pc' := 41) (lv' := [some (.ref x0), some (.int x1)]) (st' := [.ref x0]) (h' := h9) rfl ?_
      obtain ⟨y10, qy10, hf⟩ := gi_bind hf
      refine gi_EvF rfl (gi_fR_inv qy10) ?_
      by_cases c12 : gi_is h9 y10 0 = true
      rotate_left
      · rw [if_neg c12] at hf; cases hf
      rw [if_pos c12] at hf
      obtain ⟨y11, qy11, hf⟩ := gi_bind hf
      refine gi_EvCV rfl rfl c12 rfl rfl (e_X0_livesLeft h9 _ _ qy11) ?_
      show gi_Ev M_X5_heir 47 [some (.ref x0), some (.int x1)] [.int y11] h9 _
      cases hf
      exact gi_EvR rfl rfl
/-! X5_cash AdmiralGuinea.cash(II)I -/
def f_X5_cash (h : gi_H) (x0 : Nat) (x1 : Int32) (x2 : Int32) : Option (Int32 × gi_H) :=
  (f_X5_isBuyer x1).bind fun y1 => if y1 = 0 then some ((-1), h)
  else (f_X5_isWithin x2 0 999).bind fun y3 => if y3 = 0 then some ((-2), h)
  else (gi_fR h x0 5 0).bind fun y5 => (gi_fR h y5 0 7).bind fun y6 => (gi_ai h y6 0 x1).bind fun y7 => (gi_fR h x0 5 0).bind fun y8 => (gi_fR h y8 0 7).bind fun y9 => (gi_pi h y9 0 x1 x2).bind fun h10 => some (y7, h10)
set_option maxRecDepth 20000 in
set_option maxHeartbeats 2000000 in
theorem e_X5_cash (h : gi_H) (x0 : Nat) (x1 : Int32) (x2 : Int32) (r : (Int32 × gi_H)) (hf : f_X5_cash h x0 x1 x2 = some r) : gi_Ev M_X5_cash 0 [some (.ref x0), some (.int x1), some (.int x2), none] [] h (some (.int r.1), r.2) := by
  unfold f_X5_cash at hf
  refine gi_EvN 1 (pc' := 1) (lv' := [some (.ref x0), some (.int x1), some (.int x2), none]) (st' := [.int x1]) (h' := h) rfl ?_
  obtain ⟨y1, qy1, hf⟩ := gi_bind hf
  refine gi_EvCS rfl rfl rfl rfl rfl (e_X5_isBuyer h _ _ qy1) ?_
  show gi_Ev M_X5_cash 4 [some (.ref x0), some (.int x1), some (.int x2), none] [.int y1] h _
  refine gi_Ev_ne rfl (fun c2 => ?_) (fun c2 => ?_)
  · rw [if_pos c2] at hf
    refine gi_EvN 1 (pc' := 8) (lv' := [some (.ref x0), some (.int x1), some (.int x2), none]) (st' := [.int (-1)]) (h' := h) rfl ?_
    cases hf
    exact gi_EvR rfl rfl
  · rw [if_neg c2] at hf
    refine gi_EvN 3 (pc' := 14) (lv' := [some (.ref x0), some (.int x1), some (.int x2), none]) (st' := [.int 999, .int 0, .int x2]) (h' := h) rfl ?_
    obtain ⟨y3, qy3, hf⟩ := gi_bind hf
    refine gi_EvCS rfl rfl rfl rfl rfl (e_X5_isWithin h _ _ _ _ qy3) ?_
    show gi_Ev M_X5_cash 17 [some (.ref x0), some (.int x1), some (.int x2), none] [.int y3] h _
    refine gi_Ev_ne rfl (fun c4 => ?_) (fun c4 => ?_)
    · rw [if_pos c4] at hf
      refine gi_EvN 1 (pc' := 22) (lv' := [some (.ref x0), some (.int x1), some (.int x2), none]) (st' := [.int (-2)]) (h' := h) rfl ?_
      cases hf
      exact gi_EvR rfl rfl
    · rw [if_neg c4] at hf
      refine gi_EvN 1 (pc' := 24) (lv' := [some (.ref x0), some (.int x1), some (.int x2), none]) (st' := [.ref x0]) (h' := h) rfl ?_
      obtain ⟨y5, qy5, hf⟩ := gi_bind hf
      refine gi_EvF rfl (gi_fR_inv qy5) ?_
      obtain ⟨y6, qy6, hf⟩ := gi_bind hf
      refine gi_EvF rfl (gi_fR_inv qy6) ?_
      refine gi_EvN 1 (pc' := 31) (lv' := [some (.ref x0), some (.int x1), some (.int x2), none]) (st' := [.int x1, .ref y6]) (h' := h) rfl ?_
      obtain ⟨y7, qy7, hf⟩ := gi_bind hf
      refine gi_EvAi rfl qy7 ?_
      refine gi_EvN 2 (pc' := 34) (lv' := [some (.ref x0), some (.int x1), some (.int x2), some (.int y7)]) (st' := [.ref x0]) (h' := h) rfl ?_
      obtain ⟨y8, qy8, hf⟩ := gi_bind hf
      refine gi_EvF rfl (gi_fR_inv qy8) ?_
      obtain ⟨y9, qy9, hf⟩ := gi_bind hf
      refine gi_EvF rfl (gi_fR_inv qy9) ?_
      refine gi_EvN 2 (pc' := 42) (lv' := [some (.ref x0), some (.int x1), some (.int x2), some (.int y7)]) (st' := [.int x2, .int x1, .ref y9]) (h' := h) rfl ?_
      obtain ⟨h10, qh10, hf⟩ := gi_bind hf
      refine gi_EvPi rfl qh10 ?_
      refine gi_EvN 1 (pc' := 44) (lv' := [some (.ref x0), some (.int x1), some (.int x2), some (.int y7)]) (st' := [.int y7]) (h' := h10) rfl ?_
      cases hf
      exact gi_EvR rfl rfl
/-! X5_funds AdmiralGuinea.funds(I)I -/
def f_X5_funds (h : gi_H) (x0 : Nat) (x1 : Int32) : Option (Int32 × gi_H) :=
  (f_X5_isWithin x1 0 9999).bind fun y1 => if y1 = 0 then some ((-2), h)
  else (gi_fR h x0 5 0).bind fun y3 => (gi_fI h y3 0 1).bind fun y4 => (gi_fR h x0 5 0).bind fun y5 => (gi_fp h y5 0 1 (.int x1)).bind fun h6 => some (y4, h6)
set_option maxRecDepth 20000 in
set_option maxHeartbeats 2000000 in
theorem e_X5_funds (h : gi_H) (x0 : Nat) (x1 : Int32) (r : (Int32 × gi_H)) (hf : f_X5_funds h x0 x1 = some r) : gi_Ev M_X5_funds 0 [some (.ref x0), some (.int x1), none] [] h (some (.int r.1), r.2) := by
  unfold f_X5_funds at hf
  refine gi_EvN 3 (pc' := 5) (lv' := [some (.ref x0), some (.int x1), none]) (st' := [.int 9999, .int 0, .int x1]) (h' := h) rfl ?_
  obtain ⟨y1, qy1, hf⟩ := gi_bind hf
  refine gi_EvCS rfl rfl rfl rfl rfl (e_X5_isWithin h _ _ _ _ qy1) ?_
  show gi_Ev M_X5_funds 8 [some (.ref x0), some (.int x1), none] [.int y1] h _
  refine gi_Ev_ne rfl (fun c2 => ?_) (fun c2 => ?_)
  · rw [if_pos c2] at hf
    refine gi_EvN 1 (pc' := 13) (lv' := [some (.ref x0), some (.int x1), none]) (st' := [.int (-2)]) (h' := h) rfl ?_
    cases hf
    exact gi_EvR rfl rfl
  · rw [if_neg c2] at hf
    refine gi_EvN 1 (pc' := 15) (lv' := [some (.ref x0), some (.int x1), none]) (st' := [.ref x0]) (h' := h) rfl ?_
    obtain ⟨y3, qy3, hf⟩ := gi_bind hf
    refine gi_EvF rfl (gi_fR_inv qy3) ?_
    obtain ⟨y4, qy4, hf⟩ := gi_bind hf
    refine gi_EvF rfl (gi_fI_inv qy4) ?_
    refine gi_EvN 2 (pc' := 23) (lv' := [some (.ref x0), some (.int x1), some (.int y4)]) (st' := [.ref x0]) (h' := h) rfl ?_
    obtain ⟨y5, qy5, hf⟩ := gi_bind hf
    refine gi_EvF rfl (gi_fR_inv qy5) ?_
    refine gi_EvN 1 (pc' := 27) (lv' := [some (.ref x0), some (.int x1), some (.int y4)]) (st' := [.int x1, .ref y5]) (h' := h) rfl ?_
    obtain ⟨h6, qh6, hf⟩ := gi_bind hf
    refine gi_EvFp rfl rfl qh6 ?_
    refine gi_EvN 1 (pc' := 31) (lv' := [some (.ref x0), some (.int x1), some (.int y4)]) (st' := [.int y4]) (h' := h6) rfl ?_
    cases hf
    exact gi_EvR rfl rfl
/-! X5_say AdmiralGuinea.say(I)I -/
def f_X5_say (h : gi_H) (x0 : Nat) (x1 : Int32) : Option (Int32 × gi_H) :=
  (f_X5_isWithin x1 33 126).bind fun y1 => if y1 = 0 then some ((-2), h)
  else (gi_fR h x0 5 2).bind fun y3 => if gi_is h y3 3 = true then (f_X3_write h y3 x1).bind fun y4 => if y4.1 = 0 then some ((-4), y4.2)
  else (gi_fR y4.2 x0 5 2).bind fun y7 => (gi_fI y4.2 y7 3 0).bind fun y8 => some (y8, y4.2) else none
set_option maxRecDepth 20000 in
set_option maxHeartbeats 2000000 in
theorem e_X5_say (h : gi_H) (x0 : Nat) (x1 : Int32) (r : (Int32 × gi_H)) (hf : f_X5_say h x0 x1 = some r) : gi_Ev M_X5_say 0 [some (.ref x0), some (.int x1)] [] h (some (.int r.1), r.2) := by
  unfold f_X5_say at hf
  refine gi_EvN 3 (pc' := 5) (lv' := [some (.ref x0), some (.int x1)]) (st' := [.int 126, .int 33, .int x1]) (h' := h) rfl ?_
  obtain ⟨y1, qy1, hf⟩ := gi_bind hf
  refine gi_EvCS rfl rfl rfl rfl rfl (e_X5_isWithin h _ _ _ _ qy1) ?_
  show gi_Ev M_X5_say 8 [some (.ref x0), some (.int x1)] [.int y1] h _
  refine gi_Ev_ne rfl (fun c2 => ?_) (fun c2 => ?_)
  · rw [if_pos c2] at hf
    refine gi_EvN 1 (pc' := 13) (lv' := [some (.ref x0), some (.int x1)]) (st' := [.int (-2)]) (h' := h) rfl ?_
    cases hf
    exact gi_EvR rfl rfl
  · rw [if_neg c2] at hf
    refine gi_EvN 1 (pc' := 15) (lv' := [some (.ref x0), some (.int x1)]) (st' := [.ref x0]) (h' := h) rfl ?_
    obtain ⟨y3, qy3, hf⟩ := gi_bind hf
    refine gi_EvF rfl (gi_fR_inv qy3) ?_
    refine gi_EvN 1 (pc' := 19) (lv' := [some (.ref x0), some (.int x1)]) (st' := [.int x1, .ref y3]) (h' := h) rfl ?_
    by_cases c5 : gi_is h y3 3 = true
    rotate_left
    · rw [if_neg c5] at hf; cases hf
    rw [if_pos c5] at hf
    obtain ⟨y4, qy4, hf⟩ := gi_bind hf
    refine gi_EvCV rfl rfl c5 rfl rfl (e_X3_write h _ _ _ qy4) ?_
    show gi_Ev M_X5_say 22 [some (.ref x0), some (.int x1)] [.int y4.1] y4.2 _
    refine gi_Ev_eq rfl (fun c6 => ?_) (fun c6 => ?_)
    · rw [if_pos c6] at hf
      refine gi_EvN 1 (pc' := 37) (lv' := [some (.ref x0), some (.int x1)]) (st' := [.int (-4)]) (h' := y4.2) rfl ?_
      cases hf
      exact gi_EvR rfl rfl
    · rw [if_neg c6] at hf
      refine gi_EvN 1 (pc' := 26) (lv' := [some (.ref x0), some (.int x1)]) (st' := [.ref x0]) (h' := y4.2) rfl ?_
      obtain ⟨y7, qy7, hf⟩ := gi_bind hf
      refine gi_EvF rfl (gi_fR_inv qy7) ?_
      obtain ⟨y8, qy8, hf⟩ := gi_bind hf
      refine gi_EvF rfl (gi_fI_inv qy8) ?_
      refine gi_EvN 1 (pc' := 37) (lv' := [some (.ref x0), some (.int x1)]) (st' := [.int y8]) (h' := y4.2) rfl ?_
      cases hf
      exact gi_EvR rfl rfl
