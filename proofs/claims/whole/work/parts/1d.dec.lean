/-! X5_tellsApart AdmiralGuinea.tellsApart(II)Z -/
def f_X5_tellsApart_9 : Nat → Int32 → Int32 → Int32 → Int32 → Option Int32
  | 0, _, _, _, _ => none
  | n + 1, x0, x1, x2, x3 => if 9 < x3 then some (1)
  else (f_X5_priceOf x0 x3 x1).bind fun y2 => if y2 = x2 then some (0)
  else f_X5_tellsApart_9 n x0 x1 y2 (x3 + 1)
set_option maxRecDepth 20000 in
set_option maxHeartbeats 2000000 in
theorem e_X5_tellsApart_9 (h : gi_H) : ∀ (n : Nat) (g4 : Option Value) (x0 : Int32) (x1 : Int32) (x2 : Int32) (x3 : Int32) (r : Int32), f_X5_tellsApart_9 n x0 x1 x2 x3 = some r → gi_Ev M_X5_tellsApart 9 [some (.int x0), some (.int x1), some (.int x2), some (.int x3), g4] [] h (some (.int r), h) := by
  intro n
  induction n with
  | zero =>
    intro g4 x0 x1 x2 x3 r hf
    unfold f_X5_tellsApart_9 at hf
    cases hf
  | succ n ih =>
    intro g4 x0 x1 x2 x3 r hf
    unfold f_X5_tellsApart_9 at hf
    refine gi_EvN 2 (pc' := 12) (lv' := [some (.int x0), some (.int x1), some (.int x2), some (.int x3), g4]) (st' := [.int 9, .int x3]) (h' := h) rfl ?_
    refine gi_Ev_igt rfl (fun c1 => ?_) (fun c1 => ?_)
    · rw [if_pos c1] at hf
      refine gi_EvN 1 (pc' := 41) (lv' := [some (.int x0), some (.int x1), some (.int x2), some (.int x3), g4]) (st' := [.int 1]) (h' := h) rfl ?_
      cases hf
      exact gi_EvR rfl rfl
    · rw [if_neg c1] at hf
      refine gi_EvN 3 (pc' := 18) (lv' := [some (.int x0), some (.int x1), some (.int x2), some (.int x3), g4]) (st' := [.int x1, .int x3, .int x0]) (h' := h) rfl ?_
      obtain ⟨y2, qy2, hf⟩ := gi_bind hf
      refine gi_EvCS rfl rfl rfl rfl rfl (e_X5_priceOf h _ _ _ _ qy2) ?_
      show gi_Ev M_X5_tellsApart 21 [some (.int x0), some (.int x1), some (.int x2), some (.int x3), g4] [.int y2] h _
      refine gi_EvN 3 (pc' := 26) (lv' := [some (.int x0), some (.int x1), some (.int x2), some (.int x3), some (.int y2)]) (st' := [.int x2, .int y2]) (h' := h) rfl ?_
      refine gi_Ev_ine rfl (fun c3 => ?_) (fun c3 => ?_)
      · rw [if_pos c3] at hf
        refine gi_EvN 1 (pc' := 30) (lv' := [some (.int x0), some (.int x1), some (.int x2), some (.int x3), some (.int y2)]) (st' := [.int 0]) (h' := h) rfl ?_
        cases hf
        exact gi_EvR rfl rfl
      · rw [if_neg c3] at hf
        refine gi_EvN 4 (pc' := 9) (lv' := [some (.int x0), some (.int x1), some (.int y2), some (.int (x3 + 1)), some (.int y2)]) (st' := []) (h' := h) rfl ?_
        exact ih _  _  _  _  _ _ hf
def f_X5_tellsApart (x0 : Int32) (x1 : Int32) : Option Int32 :=
  (f_X5_priceOf x0 1 x1).bind fun y1 => f_X5_tellsApart_9 gi_F x0 x1 y1 2
set_option maxRecDepth 20000 in
set_option maxHeartbeats 2000000 in
theorem e_X5_tellsApart (h : gi_H) (x0 : Int32) (x1 : Int32) (r : Int32) (hf : f_X5_tellsApart x0 x1 = some r) : gi_Ev M_X5_tellsApart 0 [some (.int x0), some (.int x1), none, none, none] [] h (some (.int r), h) := by
  unfold f_X5_tellsApart at hf
  refine gi_EvN 3 (pc' := 3) (lv' := [some (.int x0), some (.int x1), none, none, none]) (st' := [.int x1, .int 1, .int x0]) (h' := h) rfl ?_
  obtain ⟨y1, qy1, hf⟩ := gi_bind hf
  refine gi_EvCS rfl rfl rfl rfl rfl (e_X5_priceOf h _ _ _ _ qy1) ?_
  show gi_Ev M_X5_tellsApart 6 [some (.int x0), some (.int x1), none, none, none] [.int y1] h _
  refine gi_EvN 3 (pc' := 9) (lv' := [some (.int x0), some (.int x1), some (.int y1), some (.int 2), none]) (st' := []) (h' := h) rfl ?_
  exact e_X5_tellsApart_9 h gi_F _ _ _ _ _ _ hf
/-! X5_parts AdmiralGuinea.parts()I -/
def f_X5_parts_12 (k_4 : Int32 → Int32 → Option Int32) : Nat → Int32 → Int32 → Int32 → Option Int32
  | 0, _, _, _ => none
  | n + 1, x1, x2, x3 => if 9 < x3 then k_4 x1 (x2 + 1)
  else (f_X5_tellsApart (10 * x2) x3).bind fun y2 => if y2 = 0 then f_X5_parts_12 k_4 n x1 x2 (x3 + 1)
  else f_X5_parts_12 k_4 n (x1 + 1) x2 (x3 + 1)
set_option maxRecDepth 20000 in
set_option maxHeartbeats 2000000 in
theorem e_X5_parts_12 (h : gi_H) (k_4 : Int32 → Int32 → Option Int32) (hk_4 : ∀ (g0 : Option Value) (g3 : Option Value) (x1 : Int32) (x2 : Int32) (r : Int32), k_4 x1 x2 = some r → gi_Ev M_X5_parts 4 [g0, some (.int x1), some (.int x2), g3] [] h (some (.int r), h)) : ∀ (n : Nat) (g0 : Option Value) (x1 : Int32) (x2 : Int32) (x3 : Int32) (r : Int32), f_X5_parts_12 k_4 n x1 x2 x3 = some r → gi_Ev M_X5_parts 12 [g0, some (.int x1), some (.int x2), some (.int x3)] [] h (some (.int r), h) := by
  intro n
  induction n with
  | zero =>
    intro g0 x1 x2 x3 r hf
    unfold f_X5_parts_12 at hf
    cases hf
  | succ n ih =>
    intro g0 x1 x2 x3 r hf
    unfold f_X5_parts_12 at hf
    refine gi_EvN 2 (pc' := 15) (lv' := [g0, some (.int x1), some (.int x2), some (.int x3)]) (st' := [.int 9, .int x3]) (h' := h) rfl ?_
    refine gi_Ev_igt rfl (fun c1 => ?_) (fun c1 => ?_)
    · rw [if_pos c1] at hf
      refine gi_EvN 2 (pc' := 4) (lv' := [g0, some (.int x1), some (.int (x2 + 1)), some (.int x3)]) (st' := []) (h' := h) rfl ?_
      exact hk_4 _ _  _  _ _ hf
    · rw [if_neg c1] at hf
      refine gi_EvN 4 (pc' := 23) (lv' := [g0, some (.int x1), some (.int x2), some (.int x3)]) (st' := [.int x3, .int (10 * x2)]) (h' := h) rfl ?_
      obtain ⟨y2, qy2, hf⟩ := gi_bind hf
      refine gi_EvCS rfl rfl rfl rfl rfl (e_X5_tellsApart h _ _ _ qy2) ?_
      show gi_Ev M_X5_parts 26 [g0, some (.int x1), some (.int x2), some (.int x3)] [.int y2] h _
      refine gi_Ev_eq rfl (fun c3 => ?_) (fun c3 => ?_)
      · rw [if_pos c3] at hf
        refine gi_EvN 2 (pc' := 12) (lv' := [g0, some (.int x1), some (.int x2), some (.int (x3 + 1))]) (st' := []) (h' := h) rfl ?_
        exact ih _  _  _  _ _ hf
      · rw [if_neg c3] at hf
        refine gi_EvN 3 (pc' := 12) (lv' := [(gi_cl g0), some (.int (x1 + 1)), some (.int x2), some (.int (x3 + 1))]) (st' := []) (h' := h) rfl ?_
        exact ih _  _  _  _ _ hf
def f_X5_parts_4 : Nat → Int32 → Int32 → Option Int32
  | 0, _, _ => none
  | n + 1, x1, x2 => if 9 < x2 then some (x1)
  else f_X5_parts_12 (f_X5_parts_4 n) gi_F x1 x2 1
set_option maxRecDepth 20000 in
set_option maxHeartbeats 2000000 in
theorem e_X5_parts_4 (h : gi_H) : ∀ (n : Nat) (g0 : Option Value) (g3 : Option Value) (x1 : Int32) (x2 : Int32) (r : Int32), f_X5_parts_4 n x1 x2 = some r → gi_Ev M_X5_parts 4 [g0, some (.int x1), some (.int x2), g3] [] h (some (.int r), h) := by
  intro n
  induction n with
  | zero =>
    intro g0 g3 x1 x2 r hf
    unfold f_X5_parts_4 at hf
    cases hf
  | succ n ih =>
    intro g0 g3 x1 x2 r hf
    unfold f_X5_parts_4 at hf
    refine gi_EvN 2 (pc' := 7) (lv' := [g0, some (.int x1), some (.int x2), g3]) (st' := [.int 9, .int x2]) (h' := h) rfl ?_
    refine gi_Ev_igt rfl (fun c1 => ?_) (fun c1 => ?_)
    · rw [if_pos c1] at hf
      refine gi_EvN 1 (pc' := 45) (lv' := [g0, some (.int x1), some (.int x2), g3]) (st' := [.int x1]) (h' := h) rfl ?_
      cases hf
      exact gi_EvR rfl rfl
    · rw [if_neg c1] at hf
      refine gi_EvN 2 (pc' := 12) (lv' := [g0, some (.int x1), some (.int x2), some (.int 1)]) (st' := []) (h' := h) rfl ?_
      exact e_X5_parts_12 h _ ih gi_F _ _ _ _ _ hf
def f_X5_parts (x0 : Nat) : Option Int32 :=
  f_X5_parts_4 gi_F 0 1
set_option maxRecDepth 20000 in
set_option maxHeartbeats 2000000 in
theorem e_X5_parts (h : gi_H) (x0 : Nat) (r : Int32) (hf : f_X5_parts x0 = some r) : gi_Ev M_X5_parts 0 [some (.ref x0), none, none, none] [] h (some (.int r), h) := by
  unfold f_X5_parts at hf
  refine gi_EvN 4 (pc' := 4) (lv' := [some (.ref x0), some (.int 0), some (.int 1), none]) (st' := []) (h' := h) rfl ?_
  exact e_X5_parts_4 h gi_F _ _ _ _ _ hf
/-! X5_seen AdmiralGuinea.seen(III)I -/
def f_X5_seen (h : gi_H) (x0 : Nat) (x1 : Int32) (x2 : Int32) (x3 : Int32) : Option (Int32 × gi_H) :=
  (f_X5_isBuyer x1).bind fun y1 => if y1 = 0 then some ((-1), h)
  else (f_X5_isLife x2).bind fun y3 => if y3 = 0 then some ((-1), h)
  else (f_X5_isWithin x3 0 999).bind fun y5 => if y5 = 0 then some ((-2), h)
  else (gi_fR h x0 5 0).bind fun y7 => if gi_is h y7 0 = true then (f_X0_note h y7 x1 x2 x3).bind fun y8 => if y8.1 = 0 then some ((-4), y8.2)
  else (gi_fR y8.2 x0 5 0).bind fun y11 => (gi_fI y8.2 y11 0 5).bind fun y12 => some (y12, y8.2) else none
set_option maxRecDepth 20000 in
set_option maxHeartbeats 2000000 in
theorem e_X5_seen (h : gi_H) (x0 : Nat) (x1 : Int32) (x2 : Int32) (x3 : Int32) (r : (Int32 × gi_H)) (hf : f_X5_seen h x0 x1 x2 x3 = some r) : gi_Ev M_X5_seen 0 [some (.ref x0), some (.int x1), some (.int x2), some (.int x3)] [] h (some (.int r.1), r.2) := by
  unfold f_X5_seen at hf
  refine gi_EvN 1 (pc' := 1) (lv' := [some (.ref x0), some (.int x1), some (.int x2), some (.int x3)]) (st' := [.int x1]) (h' := h) rfl ?_
  obtain ⟨y1, qy1, hf⟩ := gi_bind hf
  refine gi_EvCS rfl rfl rfl rfl rfl (e_X5_isBuyer h _ _ qy1) ?_
  show gi_Ev M_X5_seen 4 [some (.ref x0), some (.int x1), some (.int x2), some (.int x3)] [.int y1] h _
  refine gi_Ev_eq rfl (fun c2 => ?_) (fun c2 => ?_)
  · rw [if_pos c2] at hf
    refine gi_EvN 1 (pc' := 15) (lv' := [some (.ref x0), some (.int x1), some (.int x2), some (.int x3)]) (st' := [.int (-1)]) (h' := h) rfl ?_
    cases hf
    exact gi_EvR rfl rfl
  · rw [if_neg c2] at hf
    refine gi_EvN 1 (pc' := 8) (lv' := [some (.ref x0), some (.int x1), some (.int x2), some (.int x3)]) (st' := [.int x2]) (h' := h) rfl ?_
    obtain ⟨y3, qy3, hf⟩ := gi_bind hf
    refine gi_EvCS rfl rfl rfl rfl rfl (e_X5_isLife h _ _ qy3) ?_
    show gi_Ev M_X5_seen 11 [some (.ref x0), some (.int x1), some (.int x2), some (.int x3)] [.int y3] h _
    refine gi_Ev_ne rfl (fun c4 => ?_) (fun c4 => ?_)
    · rw [if_pos c4] at hf
      refine gi_EvN 1 (pc' := 15) (lv' := [some (.ref x0), some (.int x1), some (.int x2), some (.int x3)]) (st' := [.int (-1)]) (h' := h) rfl ?_
      cases hf
      exact gi_EvR rfl rfl
    · rw [if_neg c4] at hf
      refine gi_EvN 3 (pc' := 21) (lv' := [some (.ref x0), some (.int x1), some (.int x2), some (.int x3)]) (st' := [.int 999, .int 0, .int x3]) (h' := h) rfl ?_
      obtain ⟨y5, qy5, hf⟩ := gi_bind hf
      refine gi_EvCS rfl rfl rfl rfl rfl (e_X5_isWithin h _ _ _ _ qy5) ?_
      show gi_Ev M_X5_seen 24 [some (.ref x0), some (.int x1), some (.int x2), some (.int x3)] [.int y5] h _
      refine gi_Ev_ne rfl (fun c6 => ?_) (fun c6 => ?_)
      · rw [if_pos c6] at hf
        refine gi_EvN 1 (pc' := 29) (lv' := [some (.ref x0), some (.int x1), some (.int x2), some (.int x3)]) (st' := [.int (-2)]) (h' := h) rfl ?_
        cases hf
        exact gi_EvR rfl rfl
      · rw [if_neg c6] at hf
        refine gi_EvN 1 (pc' := 31) (lv' := [some (.ref x0), some (.int x1), some (.int x2), some (.int x3)]) (st' := [.ref x0]) (h' := h) rfl ?_
        obtain ⟨y7, qy7, hf⟩ := gi_bind hf
        refine gi_EvF rfl (gi_fR_inv qy7) ?_
        refine gi_EvN 3 (pc' := 37) (lv' := [some (.ref x0), some (.int x1), some (.int x2), some (.int x3)]) (st' := [.int x3, .int x2, .int x1, .ref y7]) (h' := h) rfl ?_
        by_cases c9 : gi_is h y7 0 = true
        rotate_left
        · rw [if_neg c9] at hf; cases hf
        rw [if_pos c9] at hf
        obtain ⟨y8, qy8, hf⟩ := gi_bind hf
        refine gi_EvCV rfl rfl c9 rfl rfl (e_X0_note h _ _ _ _ _ qy8) ?_
        show gi_Ev M_X5_seen 40 [some (.ref x0), some (.int x1), some (.int x2), some (.int x3)] [.int y8.1] y8.2 _
        refine gi_Ev_eq rfl (fun c10 => ?_) (fun c10 => ?_)
        · rw [if_pos c10] at hf
          refine gi_EvN 1 (pc' := 55) (lv' := [some (.ref x0), some (.int x1), some (.int x2), some (.int x3)]) (st' := [.int (-4)]) (h' := y8.2) rfl ?_
          cases hf
          exact gi_EvR rfl rfl
        · rw [if_neg c10] at hf
          refine gi_EvN 1 (pc' := 44) (lv' := [some (.ref x0), some (.int x1), some (.int x2), some (.int x3)]) (st' := [.ref x0]) (h' := y8.2) rfl ?_
          obtain ⟨y11, qy11, hf⟩ := gi_bind hf
          refine gi_EvF rfl (gi_fR_inv qy11) ?_
          obtain ⟨y12, qy12, hf⟩ := gi_bind hf
          refine gi_EvF rfl (gi_fI_inv qy12) ?_
          refine gi_EvN 1 (pc' := 55) (lv' := [some (.ref x0), some (.int x1), some (.int x2), some (.int x3)]) (st' := [.int y12]) (h' := y8.2) rfl ?_
          cases hf
          exact gi_EvR rfl rfl
/-! X5_forget AdmiralGuinea.forget()I -/
def f_X5_forget (h : gi_H) (x0 : Nat) : Option (Int32 × gi_H) :=
  (gi_fR h x0 5 0).bind fun y1 => (gi_fI h y1 0 5).bind fun y2 => (gi_fR h x0 5 0).bind fun y3 => (gi_fp h y3 0 5 (.int 0)).bind fun h4 => some (y2, h4)
set_option maxRecDepth 20000 in
set_option maxHeartbeats 2000000 in
theorem e_X5_forget (h : gi_H) (x0 : Nat) (r : (Int32 × gi_H)) (hf : f_X5_forget h x0 = some r) : gi_Ev M_X5_forget 0 [some (.ref x0), none] [] h (some (.int r.1), r.2) := by
  unfold f_X5_forget at hf
  refine gi_EvN 1 (pc' := 1) (lv' := [some (.ref x0), none]) (st' := [.ref x0]) (h' := h) rfl ?_
  obtain ⟨y1, qy1, hf⟩ := gi_bind hf
  refine gi_EvF rfl (gi_fR_inv qy1) ?_
  obtain ⟨y2, qy2, hf⟩ := gi_bind hf
  refine gi_EvF rfl (gi_fI_inv qy2) ?_
  refine gi_EvN 2 (pc' := 9) (lv' := [some (.ref x0), some (.int y2)]) (st' := [.ref x0]) (h' := h) rfl ?_
  obtain ⟨y3, qy3, hf⟩ := gi_bind hf
  refine gi_EvF rfl (gi_fR_inv qy3) ?_
  refine gi_EvN 1 (pc' := 13) (lv' := [some (.ref x0), some (.int y2)]) (st' := [.int 0, .ref y3]) (h' := h) rfl ?_
  obtain ⟨h4, qh4, hf⟩ := gi_bind hf
  refine gi_EvFp rfl rfl qh4 ?_
  refine gi_EvN 1 (pc' := 17) (lv' := [some (.ref x0), some (.int y2)]) (st' := [.int y2]) (h' := h4) rfl ?_
  cases hf
  exact gi_EvR rfl rfl
/-! J13_bitCount_95d88 java/lang/Long.bitCount(J)I -/
def f_J13_bitCount_95d88 (x0 : Int64) : Option Int32 :=
  some (((Int64.toInt32 ((((((((x0 - ((Int64.toUInt64 x0 >>> ((Int32.toInt64 1).toUInt64 &&& Int64.toUInt64 63)).toInt64 &&& 6148914691236517205)) &&& 3689348814741910323) + ((Int64.toUInt64 (x0 - ((Int64.toUInt64 x0 >>> ((Int32.toInt64 1).toUInt64 &&& Int64.toUInt64 63)).toInt64 &&& 6148914691236517205)) >>> ((Int32.toInt64 2).toUInt64 &&& Int64.toUInt64 63)).toInt64 &&& 3689348814741910323)) + (Int64.toUInt64 (((x0 - ((Int64.toUInt64 x0 >>> ((Int32.toInt64 1).toUInt64 &&& Int64.toUInt64 63)).toInt64 &&& 6148914691236517205)) &&& 3689348814741910323) + ((Int64.toUInt64 (x0 - ((Int64.toUInt64 x0 >>> ((Int32.toInt64 1).toUInt64 &&& Int64.toUInt64 63)).toInt64 &&& 6148914691236517205)) >>> ((Int32.toInt64 2).toUInt64 &&& Int64.toUInt64 63)).toInt64 &&& 3689348814741910323)) >>> ((Int32.toInt64 4).toUInt64 &&& Int64.toUInt64 63)).toInt64) &&& 1085102592571150095) + (Int64.toUInt64 (((((x0 - ((Int64.toUInt64 x0 >>> ((Int32.toInt64 1).toUInt64 &&& Int64.toUInt64 63)).toInt64 &&& 6148914691236517205)) &&& 3689348814741910323) + ((Int64.toUInt64 (x0 - ((Int64.toUInt64 x0 >>> ((Int32.toInt64 1).toUInt64 &&& Int64.toUInt64 63)).toInt64 &&& 6148914691236517205)) >>> ((Int32.toInt64 2).toUInt64 &&& Int64.toUInt64 63)).toInt64 &&& 3689348814741910323)) + (Int64.toUInt64 (((x0 - ((Int64.toUInt64 x0 >>> ((Int32.toInt64 1).toUInt64 &&& Int64.toUInt64 63)).toInt64 &&& 6148914691236517205)) &&& 3689348814741910323) + ((Int64.toUInt64 (x0 - ((Int64.toUInt64 x0 >>> ((Int32.toInt64 1).toUInt64 &&& Int64.toUInt64 63)).toInt64 &&& 6148914691236517205)) >>> ((Int32.toInt64 2).toUInt64 &&& Int64.toUInt64 63)).toInt64 &&& 3689348814741910323)) >>> ((Int32.toInt64 4).toUInt64 &&& Int64.toUInt64 63)).toInt64) &&& 1085102592571150095) >>> ((Int32.toInt64 8).toUInt64 &&& Int64.toUInt64 63)).toInt64) + (Int64.toUInt64 ((((((x0 - ((Int64.toUInt64 x0 >>> ((Int32.toInt64 1).toUInt64 &&& Int64.toUInt64 63)).toInt64 &&& 6148914691236517205)) &&& 3689348814741910323) + ((Int64.toUInt64 (x0 - ((Int64.toUInt64 x0 >>> ((Int32.toInt64 1).toUInt64 &&& Int64.toUInt64 63)).toInt64 &&& 6148914691236517205)) >>> ((Int32.toInt64 2).toUInt64 &&& Int64.toUInt64 63)).toInt64 &&& 3689348814741910323)) + (Int64.toUInt64 (((x0 - ((Int64.toUInt64 x0 >>> ((Int32.toInt64 1).toUInt64 &&& Int64.toUInt64 63)).toInt64 &&& 6148914691236517205)) &&& 3689348814741910323) + ((Int64.toUInt64 (x0 - ((Int64.toUInt64 x0 >>> ((Int32.toInt64 1).toUInt64 &&& Int64.toUInt64 63)).toInt64 &&& 6148914691236517205)) >>> ((Int32.toInt64 2).toUInt64 &&& Int64.toUInt64 63)).toInt64 &&& 3689348814741910323)) >>> ((Int32.toInt64 4).toUInt64 &&& Int64.toUInt64 63)).toInt64) &&& 1085102592571150095) + (Int64.toUInt64 (((((x0 - ((Int64.toUInt64 x0 >>> ((Int32.toInt64 1).toUInt64 &&& Int64.toUInt64 63)).toInt64 &&& 6148914691236517205)) &&& 3689348814741910323) + ((Int64.toUInt64 (x0 - ((Int64.toUInt64 x0 >>> ((Int32.toInt64 1).toUInt64 &&& Int64.toUInt64 63)).toInt64 &&& 6148914691236517205)) >>> ((Int32.toInt64 2).toUInt64 &&& Int64.toUInt64 63)).toInt64 &&& 3689348814741910323)) + (Int64.toUInt64 (((x0 - ((Int64.toUInt64 x0 >>> ((Int32.toInt64 1).toUInt64 &&& Int64.toUInt64 63)).toInt64 &&& 6148914691236517205)) &&& 3689348814741910323) + ((Int64.toUInt64 (x0 - ((Int64.toUInt64 x0 >>> ((Int32.toInt64 1).toUInt64 &&& Int64.toUInt64 63)).toInt64 &&& 6148914691236517205)) >>> ((Int32.toInt64 2).toUInt64 &&& Int64.toUInt64 63)).toInt64 &&& 3689348814741910323)) >>> ((Int32.toInt64 4).toUInt64 &&& Int64.toUInt64 63)).toInt64) &&& 1085102592571150095) >>> ((Int32.toInt64 8).toUInt64 &&& Int64.toUInt64 63)).toInt64) >>> ((Int32.toInt64 16).toUInt64 &&& Int64.toUInt64 63)).toInt64) + (Int64.toUInt64 (((((((x0 - ((Int64.toUInt64 x0 >>> ((Int32.toInt64 1).toUInt64 &&& Int64.toUInt64 63)).toInt64 &&& 6148914691236517205)) &&& 3689348814741910323) + ((Int64.toUInt64 (x0 - ((Int64.toUInt64 x0 >>> ((Int32.toInt64 1).toUInt64 &&& Int64.toUInt64 63)).toInt64 &&& 6148914691236517205)) >>> ((Int32.toInt64 2).toUInt64 &&& Int64.toUInt64 63)).toInt64 &&& 3689348814741910323)) + (Int64.toUInt64 (((x0 - ((Int64.toUInt64 x0 >>> ((Int32.toInt64 1).toUInt64 &&& Int64.toUInt64 63)).toInt64 &&& 6148914691236517205)) &&& 3689348814741910323) + ((Int64.toUInt64 (x0 - ((Int64.toUInt64 x0 >>> ((Int32.toInt64 1).toUInt64 &&& Int64.toUInt64 63)).toInt64 &&& 6148914691236517205)) >>> ((Int32.toInt64 2).toUInt64 &&& Int64.toUInt64 63)).toInt64 &&& 3689348814741910323)) >>> ((Int32.toInt64 4).toUInt64 &&& Int64.toUInt64 63)).toInt64) &&& 1085102592571150095) + (Int64.toUInt64 (((((x0 - ((Int64.toUInt64 x0 >>> ((Int32.toInt64 1).toUInt64 &&& Int64.toUInt64 63)).toInt64 &&& 6148914691236517205)) &&& 3689348814741910323) + ((Int64.toUInt64 (x0 - ((Int64.toUInt64 x0 >>> ((Int32.toInt64 1).toUInt64 &&& Int64.toUInt64 63)).toInt64 &&& 6148914691236517205)) >>> ((Int32.toInt64 2).toUInt64 &&& Int64.toUInt64 63)).toInt64 &&& 3689348814741910323)) + (Int64.toUInt64 (((x0 - ((Int64.toUInt64 x0 >>> ((Int32.toInt64 1).toUInt64 &&& Int64.toUInt64 63)).toInt64 &&& 6148914691236517205)) &&& 3689348814741910323) + ((Int64.toUInt64 (x0 - ((Int64.toUInt64 x0 >>> ((Int32.toInt64 1).toUInt64 &&& Int64.toUInt64 63)).toInt64 &&& 6148914691236517205)) >>> ((Int32.toInt64 2).toUInt64 &&& Int64.toUInt64 63)).toInt64 &&& 3689348814741910323)) >>> ((Int32.toInt64 4).toUInt64 &&& Int64.toUInt64 63)).toInt64) &&& 1085102592571150095) >>> ((Int32.toInt64 8).toUInt64 &&& Int64.toUInt64 63)).toInt64) + (Int64.toUInt64 ((((((x0 - ((Int64.toUInt64 x0 >>> ((Int32.toInt64 1).toUInt64 &&& Int64.toUInt64 63)).toInt64 &&& 6148914691236517205)) &&& 3689348814741910323) + ((Int64.toUInt64 (x0 - ((Int64.toUInt64 x0 >>> ((Int32.toInt64 1).toUInt64 &&& Int64.toUInt64 63)).toInt64 &&& 6148914691236517205)) >>> ((Int32.toInt64 2).toUInt64 &&& Int64.toUInt64 63)).toInt64 &&& 3689348814741910323)) + (Int64.toUInt64 (((x0 - ((Int64.toUInt64 x0 >>> ((Int32.toInt64 1).toUInt64 &&& Int64.toUInt64 63)).toInt64 &&& 6148914691236517205)) &&& 3689348814741910323) + ((Int64.toUInt64 (x0 - ((Int64.toUInt64 x0 >>> ((Int32.toInt64 1).toUInt64 &&& Int64.toUInt64 63)).toInt64 &&& 6148914691236517205)) >>> ((Int32.toInt64 2).toUInt64 &&& Int64.toUInt64 63)).toInt64 &&& 3689348814741910323)) >>> ((Int32.toInt64 4).toUInt64 &&& Int64.toUInt64 63)).toInt64) &&& 1085102592571150095) + (Int64.toUInt64 (((((x0 - ((Int64.toUInt64 x0 >>> ((Int32.toInt64 1).toUInt64 &&& Int64.toUInt64 63)).toInt64 &&& 6148914691236517205)) &&& 3689348814741910323) + ((Int64.toUInt64 (x0 - ((Int64.toUInt64 x0 >>> ((Int32.toInt64 1).toUInt64 &&& Int64.toUInt64 63)).toInt64 &&& 6148914691236517205)) >>> ((Int32.toInt64 2).toUInt64 &&& Int64.toUInt64 63)).toInt64 &&& 3689348814741910323)) + (Int64.toUInt64 (((x0 - ((Int64.toUInt64 x0 >>> ((Int32.toInt64 1).toUInt64 &&& Int64.toUInt64 63)).toInt64 &&& 6148914691236517205)) &&& 3689348814741910323) + ((Int64.toUInt64 (x0 - ((Int64.toUInt64 x0 >>> ((Int32.toInt64 1).toUInt64 &&& Int64.toUInt64 63)).toInt64 &&& 6148914691236517205)) >>> ((Int32.toInt64 2).toUInt64 &&& Int64.toUInt64 63)).toInt64 &&& 3689348814741910323)) >>> ((Int32.toInt64 4).toUInt64 &&& Int64.toUInt64 63)).toInt64) &&& 1085102592571150095) >>> ((Int32.toInt64 8).toUInt64 &&& Int64.toUInt64 63)).toInt64) >>> ((Int32.toInt64 16).toUInt64 &&& Int64.toUInt64 63)).toInt64) >>> ((Int32.toInt64 32).toUInt64 &&& Int64.toUInt64 63)).toInt64)) &&& 127))
set_option maxRecDepth 20000 in
set_option maxHeartbeats 2000000 in
theorem e_J13_bitCount_95d88 (h : gi_H) (x0 : Int64) (r : Int32) (hf : f_J13_bitCount_95d88 x0 = some r) : gi_Ev M_J13_bitCount_95d88 0 [some (.long x0), none] [] h (some (.int r), h) := by
  unfold f_J13_bitCount_95d88 at hf
  refine gi_EvN 48 (pc' := 60) (lv' := [some (.long ((((((((x0 - ((Int64.toUInt64 x0 >>> ((Int32.toInt64 1).toUInt64 &&& Int64.toUInt64 63)).toInt64 &&& 6148914691236517205)) &&& 3689348814741910323) + ((Int64.toUInt64 (x0 - ((Int64.toUInt64 x0 >>> ((Int32.toInt64 1).toUInt64 &&& Int64.toUInt64 63)).toInt64 &&& 6148914691236517205)) >>> ((Int32.toInt64 2).toUInt64 &&& Int64.toUInt64 63)).toInt64 &&& 3689348814741910323)) + (Int64.toUInt64 (((x0 - ((Int64.toUInt64 x0 >>> ((Int32.toInt64 1).toUInt64 &&& Int64.toUInt64 63)).toInt64 &&& 6148914691236517205)) &&& 3689348814741910323) + ((Int64.toUInt64 (x0 - ((Int64.toUInt64 x0 >>> ((Int32.toInt64 1).toUInt64 &&& Int64.toUInt64 63)).toInt64 &&& 6148914691236517205)) >>> ((Int32.toInt64 2).toUInt64 &&& Int64.toUInt64 63)).toInt64 &&& 3689348814741910323)) >>> ((Int32.toInt64 4).toUInt64 &&& Int64.toUInt64 63)).toInt64) &&& 1085102592571150095) + (Int64.toUInt64 (((((x0 - ((Int64.toUInt64 x0 >>> ((Int32.toInt64 1).toUInt64 &&& Int64.toUInt64 63)).toInt64 &&& 6148914691236517205)) &&& 3689348814741910323) + ((Int64.toUInt64 (x0 - ((Int64.toUInt64 x0 >>> ((Int32.toInt64 1).toUInt64 &&& Int64.toUInt64 63)).toInt64 &&& 6148914691236517205)) >>> ((Int32.toInt64 2).toUInt64 &&& Int64.toUInt64 63)).toInt64 &&& 3689348814741910323)) + (Int64.toUInt64 (((x0 - ((Int64.toUInt64 x0 >>> ((Int32.toInt64 1).toUInt64 &&& Int64.toUInt64 63)).toInt64 &&& 6148914691236517205)) &&& 3689348814741910323) + ((Int64.toUInt64 (x0 - ((Int64.toUInt64 x0 >>> ((Int32.toInt64 1).toUInt64 &&& Int64.toUInt64 63)).toInt64 &&& 6148914691236517205)) >>> ((Int32.toInt64 2).toUInt64 &&& Int64.toUInt64 63)).toInt64 &&& 3689348814741910323)) >>> ((Int32.toInt64 4).toUInt64 &&& Int64.toUInt64 63)).toInt64) &&& 1085102592571150095) >>> ((Int32.toInt64 8).toUInt64 &&& Int64.toUInt64 63)).toInt64) + (Int64.toUInt64 ((((((x0 - ((Int64.toUInt64 x0 >>> ((Int32.toInt64 1).toUInt64 &&& Int64.toUInt64 63)).toInt64 &&& 6148914691236517205)) &&& 3689348814741910323) + ((Int64.toUInt64 (x0 - ((Int64.toUInt64 x0 >>> ((Int32.toInt64 1).toUInt64 &&& Int64.toUInt64 63)).toInt64 &&& 6148914691236517205)) >>> ((Int32.toInt64 2).toUInt64 &&& Int64.toUInt64 63)).toInt64 &&& 3689348814741910323)) + (Int64.toUInt64 (((x0 - ((Int64.toUInt64 x0 >>> ((Int32.toInt64 1).toUInt64 &&& Int64.toUInt64 63)).toInt64 &&& 6148914691236517205)) &&& 3689348814741910323) + ((Int64.toUInt64 (x0 - ((Int64.toUInt64 x0 >>> ((Int32.toInt64 1).toUInt64 &&& Int64.toUInt64 63)).toInt64 &&& 6148914691236517205)) >>> ((Int32.toInt64 2).toUInt64 &&& Int64.toUInt64 63)).toInt64 &&& 3689348814741910323)) >>> ((Int32.toInt64 4).toUInt64 &&& Int64.toUInt64 63)).toInt64) &&& 1085102592571150095) + (Int64.toUInt64 (((((x0 - ((Int64.toUInt64 x0 >>> ((Int32.toInt64 1).toUInt64 &&& Int64.toUInt64 63)).toInt64 &&& 6148914691236517205)) &&& 3689348814741910323) + ((Int64.toUInt64 (x0 - ((Int64.toUInt64 x0 >>> ((Int32.toInt64 1).toUInt64 &&& Int64.toUInt64 63)).toInt64 &&& 6148914691236517205)) >>> ((Int32.toInt64 2).toUInt64 &&& Int64.toUInt64 63)).toInt64 &&& 3689348814741910323)) + (Int64.toUInt64 (((x0 - ((Int64.toUInt64 x0 >>> ((Int32.toInt64 1).toUInt64 &&& Int64.toUInt64 63)).toInt64 &&& 6148914691236517205)) &&& 3689348814741910323) + ((Int64.toUInt64 (x0 - ((Int64.toUInt64 x0 >>> ((Int32.toInt64 1).toUInt64 &&& Int64.toUInt64 63)).toInt64 &&& 6148914691236517205)) >>> ((Int32.toInt64 2).toUInt64 &&& Int64.toUInt64 63)).toInt64 &&& 3689348814741910323)) >>> ((Int32.toInt64 4).toUInt64 &&& Int64.toUInt64 63)).toInt64) &&& 1085102592571150095) >>> ((Int32.toInt64 8).toUInt64 &&& Int64.toUInt64 63)).toInt64) >>> ((Int32.toInt64 16).toUInt64 &&& Int64.toUInt64 63)).toInt64) + (Int64.toUInt64 (((((((x0 - ((Int64.toUInt64 x0 >>> ((Int32.toInt64 1).toUInt64 &&& Int64.toUInt64 63)).toInt64 &&& 6148914691236517205)) &&& 3689348814741910323) + ((Int64.toUInt64 (x0 - ((Int64.toUInt64 x0 >>> ((Int32.toInt64 1).toUInt64 &&& Int64.toUInt64 63)).toInt64 &&& 6148914691236517205)) >>> ((Int32.toInt64 2).toUInt64 &&& Int64.toUInt64 63)).toInt64 &&& 3689348814741910323)) + (Int64.toUInt64 (((x0 - ((Int64.toUInt64 x0 >>> ((Int32.toInt64 1).toUInt64 &&& Int64.toUInt64 63)).toInt64 &&& 6148914691236517205)) &&& 3689348814741910323) + ((Int64.toUInt64 (x0 - ((Int64.toUInt64 x0 >>> ((Int32.toInt64 1).toUInt64 &&& Int64.toUInt64 63)).toInt64 &&& 6148914691236517205)) >>> ((Int32.toInt64 2).toUInt64 &&& Int64.toUInt64 63)).toInt64 &&& 3689348814741910323)) >>> ((Int32.toInt64 4).toUInt64 &&& Int64.toUInt64 63)).toInt64) &&& 1085102592571150095) + (Int64.toUInt64 (((((x0 - ((Int64.toUInt64 x0 >>> ((Int32.toInt64 1).toUInt64 &&& Int64.toUInt64 63)).toInt64 &&& 6148914691236517205)) &&& 3689348814741910323) + ((Int64.toUInt64 (x0 - ((Int64.toUInt64 x0 >>> ((Int32.toInt64 1).toUInt64 &&& Int64.toUInt64 63)).toInt64 &&& 6148914691236517205)) >>> ((Int32.toInt64 2).toUInt64 &&& Int64.toUInt64 63)).toInt64 &&& 3689348814741910323)) + (Int64.toUInt64 (((x0 - ((Int64.toUInt64 x0 >>> ((Int32.toInt64 1).toUInt64 &&& Int64.toUInt64 63)).toInt64 &&& 6148914691236517205)) &&& 3689348814741910323) + ((Int64.toUInt64 (x0 - ((Int64.toUInt64 x0 >>> ((Int32.toInt64 1).toUInt64 &&& Int64.toUInt64 63)).toInt64 &&& 6148914691236517205)) >>> ((Int32.toInt64 2).toUInt64 &&& Int64.toUInt64 63)).toInt64 &&& 3689348814741910323)) >>> ((Int32.toInt64 4).toUInt64 &&& Int64.toUInt64 63)).toInt64) &&& 1085102592571150095) >>> ((Int32.toInt64 8).toUInt64 &&& Int64.toUInt64 63)).toInt64) + (Int64.toUInt64 ((((((x0 - ((Int64.toUInt64 x0 >>> ((Int32.toInt64 1).toUInt64 &&& Int64.toUInt64 63)).toInt64 &&& 6148914691236517205)) &&& 3689348814741910323) + ((Int64.toUInt64 (x0 - ((Int64.toUInt64 x0 >>> ((Int32.toInt64 1).toUInt64 &&& Int64.toUInt64 63)).toInt64 &&& 6148914691236517205)) >>> ((Int32.toInt64 2).toUInt64 &&& Int64.toUInt64 63)).toInt64 &&& 3689348814741910323)) + (Int64.toUInt64 (((x0 - ((Int64.toUInt64 x0 >>> ((Int32.toInt64 1).toUInt64 &&& Int64.toUInt64 63)).toInt64 &&& 6148914691236517205)) &&& 3689348814741910323) + ((Int64.toUInt64 (x0 - ((Int64.toUInt64 x0 >>> ((Int32.toInt64 1).toUInt64 &&& Int64.toUInt64 63)).toInt64 &&& 6148914691236517205)) >>> ((Int32.toInt64 2).toUInt64 &&& Int64.toUInt64 63)).toInt64 &&& 3689348814741910323)) >>> ((Int32.toInt64 4).toUInt64 &&& Int64.toUInt64 63)).toInt64) &&& 1085102592571150095) + (Int64.toUInt64 (((((x0 - ((Int64.toUInt64 x0 >>> ((Int32.toInt64 1).toUInt64 &&& Int64.toUInt64 63)).toInt64 &&& 6148914691236517205)) &&& 3689348814741910323) + ((Int64.toUInt64 (x0 - ((Int64.toUInt64 x0 >>> ((Int32.toInt64 1).toUInt64 &&& Int64.toUInt64 63)).toInt64 &&& 6148914691236517205)) >>> ((Int32.toInt64 2).toUInt64 &&& Int64.toUInt64 63)).toInt64 &&& 3689348814741910323)) + (Int64.toUInt64 (((x0 - ((Int64.toUInt64 x0 >>> ((Int32.toInt64 1).toUInt64 &&& Int64.toUInt64 63)).toInt64 &&& 6148914691236517205)) &&& 3689348814741910323) + ((Int64.toUInt64 (x0 - ((Int64.toUInt64 x0 >>> ((Int32.toInt64 1).toUInt64 &&& Int64.toUInt64 63)).toInt64 &&& 6148914691236517205)) >>> ((Int32.toInt64 2).toUInt64 &&& Int64.toUInt64 63)).toInt64 &&& 3689348814741910323)) >>> ((Int32.toInt64 4).toUInt64 &&& Int64.toUInt64 63)).toInt64) &&& 1085102592571150095) >>> ((Int32.toInt64 8).toUInt64 &&& Int64.toUInt64 63)).toInt64) >>> ((Int32.toInt64 16).toUInt64 &&& Int64.toUInt64 63)).toInt64) >>> ((Int32.toInt64 32).toUInt64 &&& Int64.toUInt64 63)).toInt64)), none]) (st' := [.int ((Int64.toInt32 ((((((((x0 - ((Int64.toUInt64 x0 >>> ((Int32.toInt64 1).toUInt64 &&& Int64.toUInt64 63)).toInt64 &&& 6148914691236517205)) &&& 3689348814741910323) + ((Int64.toUInt64 (x0 - ((Int64.toUInt64 x0 >>> ((Int32.toInt64 1).toUInt64 &&& Int64.toUInt64 63)).toInt64 &&& 6148914691236517205)) >>> ((Int32.toInt64 2).toUInt64 &&& Int64.toUInt64 63)).toInt64 &&& 3689348814741910323)) + (Int64.toUInt64 (((x0 - ((Int64.toUInt64 x0 >>> ((Int32.toInt64 1).toUInt64 &&& Int64.toUInt64 63)).toInt64 &&& 6148914691236517205)) &&& 3689348814741910323) + ((Int64.toUInt64 (x0 - ((Int64.toUInt64 x0 >>> ((Int32.toInt64 1).toUInt64 &&& Int64.toUInt64 63)).toInt64 &&& 6148914691236517205)) >>> ((Int32.toInt64 2).toUInt64 &&& Int64.toUInt64 63)).toInt64 &&& 3689348814741910323)) >>> ((Int32.toInt64 4).toUInt64 &&& Int64.toUInt64 63)).toInt64) &&& 1085102592571150095) + (Int64.toUInt64 (((((x0 - ((Int64.toUInt64 x0 >>> ((Int32.toInt64 1).toUInt64 &&& Int64.toUInt64 63)).toInt64 &&& 6148914691236517205)) &&& 3689348814741910323) + ((Int64.toUInt64 (x0 - ((Int64.toUInt64 x0 >>> ((Int32.toInt64 1).toUInt64 &&& Int64.toUInt64 63)).toInt64 &&& 6148914691236517205)) >>> ((Int32.toInt64 2).toUInt64 &&& Int64.toUInt64 63)).toInt64 &&& 3689348814741910323)) + (Int64.toUInt64 (((x0 - ((Int64.toUInt64 x0 >>> ((Int32.toInt64 1).toUInt64 &&& Int64.toUInt64 63)).toInt64 &&& 6148914691236517205)) &&& 3689348814741910323) + ((Int64.toUInt64 (x0 - ((Int64.toUInt64 x0 >>> ((Int32.toInt64 1).toUInt64 &&& Int64.toUInt64 63)).toInt64 &&& 6148914691236517205)) >>> ((Int32.toInt64 2).toUInt64 &&& Int64.toUInt64 63)).toInt64 &&& 3689348814741910323)) >>> ((Int32.toInt64 4).toUInt64 &&& Int64.toUInt64 63)).toInt64) &&& 1085102592571150095) >>> ((Int32.toInt64 8).toUInt64 &&& Int64.toUInt64 63)).toInt64) + (Int64.toUInt64 ((((((x0 - ((Int64.toUInt64 x0 >>> ((Int32.toInt64 1).toUInt64 &&& Int64.toUInt64 63)).toInt64 &&& 6148914691236517205)) &&& 3689348814741910323) + ((Int64.toUInt64 (x0 - ((Int64.toUInt64 x0 >>> ((Int32.toInt64 1).toUInt64 &&& Int64.toUInt64 63)).toInt64 &&& 6148914691236517205)) >>> ((Int32.toInt64 2).toUInt64 &&& Int64.toUInt64 63)).toInt64 &&& 3689348814741910323)) + (Int64.toUInt64 (((x0 - ((Int64.toUInt64 x0 >>> ((Int32.toInt64 1).toUInt64 &&& Int64.toUInt64 63)).toInt64 &&& 6148914691236517205)) &&& 3689348814741910323) + ((Int64.toUInt64 (x0 - ((Int64.toUInt64 x0 >>> ((Int32.toInt64 1).toUInt64 &&& Int64.toUInt64 63)).toInt64 &&& 6148914691236517205)) >>> ((Int32.toInt64 2).toUInt64 &&& Int64.toUInt64 63)).toInt64 &&& 3689348814741910323)) >>> ((Int32.toInt64 4).toUInt64 &&& Int64.toUInt64 63)).toInt64) &&& 1085102592571150095) + (Int64.toUInt64 (((((x0 - ((Int64.toUInt64 x0 >>> ((Int32.toInt64 1).toUInt64 &&& Int64.toUInt64 63)).toInt64 &&& 6148914691236517205)) &&& 3689348814741910323) + ((Int64.toUInt64 (x0 - ((Int64.toUInt64 x0 >>> ((Int32.toInt64 1).toUInt64 &&& Int64.toUInt64 63)).toInt64 &&& 6148914691236517205)) >>> ((Int32.toInt64 2).toUInt64 &&& Int64.toUInt64 63)).toInt64 &&& 3689348814741910323)) + (Int64.toUInt64 (((x0 - ((Int64.toUInt64 x0 >>> ((Int32.toInt64 1).toUInt64 &&& Int64.toUInt64 63)).toInt64 &&& 6148914691236517205)) &&& 3689348814741910323) + ((Int64.toUInt64 (x0 - ((Int64.toUInt64 x0 >>> ((Int32.toInt64 1).toUInt64 &&& Int64.toUInt64 63)).toInt64 &&& 6148914691236517205)) >>> ((Int32.toInt64 2).toUInt64 &&& Int64.toUInt64 63)).toInt64 &&& 3689348814741910323)) >>> ((Int32.toInt64 4).toUInt64 &&& Int64.toUInt64 63)).toInt64) &&& 1085102592571150095) >>> ((Int32.toInt64 8).toUInt64 &&& Int64.toUInt64 63)).toInt64) >>> ((Int32.toInt64 16).toUInt64 &&& Int64.toUInt64 63)).toInt64) + (Int64.toUInt64 (((((((x0 - ((Int64.toUInt64 x0 >>> ((Int32.toInt64 1).toUInt64 &&& Int64.toUInt64 63)).toInt64 &&& 6148914691236517205)) &&& 3689348814741910323) + ((Int64.toUInt64 (x0 - ((Int64.toUInt64 x0 >>> ((Int32.toInt64 1).toUInt64 &&& Int64.toUInt64 63)).toInt64 &&& 6148914691236517205)) >>> ((Int32.toInt64 2).toUInt64 &&& Int64.toUInt64 63)).toInt64 &&& 3689348814741910323)) + (Int64.toUInt64 (((x0 - ((Int64.toUInt64 x0 >>> ((Int32.toInt64 1).toUInt64 &&& Int64.toUInt64 63)).toInt64 &&& 6148914691236517205)) &&& 3689348814741910323) + ((Int64.toUInt64 (x0 - ((Int64.toUInt64 x0 >>> ((Int32.toInt64 1).toUInt64 &&& Int64.toUInt64 63)).toInt64 &&& 6148914691236517205)) >>> ((Int32.toInt64 2).toUInt64 &&& Int64.toUInt64 63)).toInt64 &&& 3689348814741910323)) >>> ((Int32.toInt64 4).toUInt64 &&& Int64.toUInt64 63)).toInt64) &&& 1085102592571150095) + (Int64.toUInt64 (((((x0 - ((Int64.toUInt64 x0 >>> ((Int32.toInt64 1).toUInt64 &&& Int64.toUInt64 63)).toInt64 &&& 6148914691236517205)) &&& 3689348814741910323) + ((Int64.toUInt64 (x0 - ((Int64.toUInt64 x0 >>> ((Int32.toInt64 1).toUInt64 &&& Int64.toUInt64 63)).toInt64 &&& 6148914691236517205)) >>> ((Int32.toInt64 2).toUInt64 &&& Int64.toUInt64 63)).toInt64 &&& 3689348814741910323)) + (Int64.toUInt64 (((x0 - ((Int64.toUInt64 x0 >>> ((Int32.toInt64 1).toUInt64 &&& Int64.toUInt64 63)).toInt64 &&& 6148914691236517205)) &&& 3689348814741910323) + ((Int64.toUInt64 (x0 - ((Int64.toUInt64 x0 >>> ((Int32.toInt64 1).toUInt64 &&& Int64.toUInt64 63)).toInt64 &&& 6148914691236517205)) >>> ((Int32.toInt64 2).toUInt64 &&& Int64.toUInt64 63)).toInt64 &&& 3689348814741910323)) >>> ((Int32.toInt64 4).toUInt64 &&& Int64.toUInt64 63)).toInt64) &&& 1085102592571150095) >>> ((Int32.toInt64 8).toUInt64 &&& Int64.toUInt64 63)).toInt64) + (Int64.toUInt64 ((((((x0 - ((Int64.toUInt64 x0 >>> ((Int32.toInt64 1).toUInt64 &&& Int64.toUInt64 63)).toInt64 &&& 6148914691236517205)) &&& 3689348814741910323) + ((Int64.toUInt64 (x0 - ((Int64.toUInt64 x0 >>> ((Int32.toInt64 1).toUInt64 &&& Int64.toUInt64 63)).toInt64 &&& 6148914691236517205)) >>> ((Int32.toInt64 2).toUInt64 &&& Int64.toUInt64 63)).toInt64 &&& 3689348814741910323)) + (Int64.toUInt64 (((x0 - ((Int64.toUInt64 x0 >>> ((Int32.toInt64 1).toUInt64 &&& Int64.toUInt64 63)).toInt64 &&& 6148914691236517205)) &&& 3689348814741910323) + ((Int64.toUInt64 (x0 - ((Int64.toUInt64 x0 >>> ((Int32.toInt64 1).toUInt64 &&& Int64.toUInt64 63)).toInt64 &&& 6148914691236517205)) >>> ((Int32.toInt64 2).toUInt64 &&& Int64.toUInt64 63)).toInt64 &&& 3689348814741910323)) >>> ((Int32.toInt64 4).toUInt64 &&& Int64.toUInt64 63)).toInt64) &&& 1085102592571150095) + (Int64.toUInt64 (((((x0 - ((Int64.toUInt64 x0 >>> ((Int32.toInt64 1).toUInt64 &&& Int64.toUInt64 63)).toInt64 &&& 6148914691236517205)) &&& 3689348814741910323) + ((Int64.toUInt64 (x0 - ((Int64.toUInt64 x0 >>> ((Int32.toInt64 1).toUInt64 &&& Int64.toUInt64 63)).toInt64 &&& 6148914691236517205)) >>> ((Int32.toInt64 2).toUInt64 &&& Int64.toUInt64 63)).toInt64 &&& 3689348814741910323)) + (Int64.toUInt64 (((x0 - ((Int64.toUInt64 x0 >>> ((Int32.toInt64 1).toUInt64 &&& Int64.toUInt64 63)).toInt64 &&& 6148914691236517205)) &&& 3689348814741910323) + ((Int64.toUInt64 (x0 - ((Int64.toUInt64 x0 >>> ((Int32.toInt64 1).toUInt64 &&& Int64.toUInt64 63)).toInt64 &&& 6148914691236517205)) >>> ((Int32.toInt64 2).toUInt64 &&& Int64.toUInt64 63)).toInt64 &&& 3689348814741910323)) >>> ((Int32.toInt64 4).toUInt64 &&& Int64.toUInt64 63)).toInt64) &&& 1085102592571150095) >>> ((Int32.toInt64 8).toUInt64 &&& Int64.toUInt64 63)).toInt64) >>> ((Int32.toInt64 16).toUInt64 &&& Int64.toUInt64 63)).toInt64) >>> ((Int32.toInt64 32).toUInt64 &&& Int64.toUInt64 63)).toInt64)) &&& 127)]) (h' := h) rfl ?_
  cases hf
  exact gi_EvR rfl rfl
/-! X5_liars AdmiralGuinea.liars(I)I -/
def f_X5_liars (h : gi_H) (x0 : Nat) (x1 : Int32) : Option Int32 :=
  (f_X5_isWithin x1 0 2).bind fun y1 => if y1 = 0 then some ((-2))
  else (gi_fR h x0 5 4).bind fun y3 => (gi_fR h x0 5 0).bind fun y4 => if gi_is h y3 4 = true then (f_X4_fitting h y3 y4).bind fun y5 => if x1 = 0 then (f_J13_bitCount_95d88 y5).bind fun y8 => some (y8)
  else if x1 = 1 then (gi_fR h x0 5 4).bind fun y10 => if gi_is h y10 4 = true then (f_X4_movedIn y10 y5).bind fun y11 => some (y11) else none
  else if (lg_cmp (y5 &&& 1) 0) = 0 then some (0)
  else some (1) else none
set_option maxRecDepth 20000 in
set_option maxHeartbeats 2000000 in
theorem e_X5_liars (h : gi_H) (x0 : Nat) (x1 : Int32) (r : Int32) (hf : f_X5_liars h x0 x1 = some r) : gi_Ev M_X5_liars 0 [some (.ref x0), some (.int x1), none, none] [] h (some (.int r), h) := by
  unfold f_X5_liars at hf
  refine gi_EvN 3 (pc' := 3) (lv' := [some (.ref x0), some (.int x1), none, none]) (st' := [.int 2, .int 0, .int x1]) (h' := h) rfl ?_
  obtain ⟨y1, qy1, hf⟩ := gi_bind hf
  refine gi_EvCS rfl rfl rfl rfl rfl (e_X5_isWithin h _ _ _ _ qy1) ?_
  show gi_Ev M_X5_liars 6 [some (.ref x0), some (.int x1), none, none] [.int y1] h _
  refine gi_Ev_ne rfl (fun c2 => ?_) (fun c2 => ?_)
  · rw [if_pos c2] at hf
    refine gi_EvN 1 (pc' := 11) (lv' := [some (.ref x0), some (.int x1), none, none]) (st' := [.int (-2)]) (h' := h) rfl ?_
    cases hf
    exact gi_EvR rfl rfl
  · rw [if_neg c2] at hf
    refine gi_EvN 1 (pc' := 13) (lv' := [some (.ref x0), some (.int x1), none, none]) (st' := [.ref x0]) (h' := h) rfl ?_
    obtain ⟨y3, qy3, hf⟩ := gi_bind hf
    refine gi_EvF rfl (gi_fR_inv qy3) ?_
    refine gi_EvN 1 (pc' := 17) (lv' := [some (.ref x0), some (.int x1), none, none]) (st' := [.ref x0, .ref y3]) (h' := h) rfl ?_
    obtain ⟨y4, qy4, hf⟩ := gi_bind hf
    refine gi_EvF rfl (gi_fR_inv qy4) ?_
    by_cases c6 : gi_is h y3 4 = true
    rotate_left
    · rw [if_neg c6] at hf; cases hf
    rw [if_pos c6] at hf
    obtain ⟨y5, qy5, hf⟩ := gi_bind hf
    refine gi_EvCV rfl rfl c6 rfl rfl (e_X4_fitting h _ _ _ qy5) ?_
    show gi_Ev M_X5_liars 23 [some (.ref x0), some (.int x1), none, none] [.long y5] h _
    refine gi_EvN 2 (pc' := 25) (lv' := [some (.ref x0), some (.int x1), some (.long y5), none]) (st' := [.int x1]) (h' := h) rfl ?_
    by_cases c7 : x1 = 0
    · rw [if_pos c7] at hf
      refine gi_EvLs (t := 52) (off := 27) rfl (by rw [c7]; decide) (by decide) ?_
      refine gi_EvN 1 (pc' := 53) (lv' := [some (.ref x0), some (.int x1), some (.long y5), none]) (st' := [.long y5]) (h' := h) rfl ?_
      obtain ⟨y8, qy8, hf⟩ := gi_bind hf
      refine gi_EvCS rfl rfl rfl rfl rfl (e_J13_bitCount_95d88 h _ _ qy8) ?_
      show gi_Ev M_X5_liars 56 [some (.ref x0), some (.int x1), some (.long y5), none] [.int y8] h _
      cases hf
      exact gi_EvR rfl rfl
    rw [if_neg c7] at hf
    by_cases c9 : x1 = 1
    · rw [if_pos c9] at hf
      refine gi_EvLs (t := 57) (off := 32) rfl (by rw [c9]; decide) (by decide) ?_
      refine gi_EvN 1 (pc' := 58) (lv' := [some (.ref x0), some (.int x1), some (.long y5), none]) (st' := [.ref x0]) (h' := h) rfl ?_
      obtain ⟨y10, qy10, hf⟩ := gi_bind hf
      refine gi_EvF rfl (gi_fR_inv qy10) ?_
      refine gi_EvN 1 (pc' := 62) (lv' := [some (.ref x0), some (.int x1), some (.long y5), none]) (st' := [.long y5, .ref y10]) (h' := h) rfl ?_
      by_cases c12 : gi_is h y10 4 = true
      rotate_left
      · rw [if_neg c12] at hf; cases hf
      rw [if_pos c12] at hf
      obtain ⟨y11, qy11, hf⟩ := gi_bind hf
      refine gi_EvCV rfl rfl c12 rfl rfl (e_X4_movedIn h _ _ _ qy11) ?_
      show gi_Ev M_X5_liars 65 [some (.ref x0), some (.int x1), some (.long y5), none] [.int y11] h _
      cases hf
      exact gi_EvR rfl rfl
    rw [if_neg c9] at hf
    refine gi_EvLs (t := 66) (off := 41) rfl ((lv_osw c7 (by decide)).trans ((lv_osw c9 (by decide)).trans (rfl))) (by decide) ?_
    refine gi_EvN 5 (pc' := 71) (lv' := [some (.ref x0), some (.int x1), some (.long y5), none]) (st' := [.int (lg_cmp (y5 &&& 1) 0)]) (h' := h) rfl ?_
    refine gi_Ev_eq rfl (fun c13 => ?_) (fun c13 => ?_)
    · rw [if_pos c13] at hf
      refine gi_EvN 1 (pc' := 79) (lv' := [some (.ref x0), some (.int x1), some (.long y5), none]) (st' := [.int 0]) (h' := h) rfl ?_
      cases hf
      exact gi_EvR rfl rfl
    · rw [if_neg c13] at hf
      refine gi_EvN 2 (pc' := 79) (lv' := [some (.ref x0), some (.int x1), some (.long y5), none]) (st' := [.int 1]) (h' := h) rfl ?_
      cases hf
      exact gi_EvR rfl rfl
/-! X5_ask AdmiralGuinea.ask(I)I -/
def f_X5_ask_53 (k_44 : gi_H → Nat → Int32 → Int64 → Int32 → Int32 → Int32 → Option (Int32 × gi_H)) : Nat → gi_H → Nat → Int32 → Int64 → Int32 → Int32 → Int32 → Int32 → Option (Int32 × gi_H)
  | 0, _, _, _, _, _, _, _, _ => none
  | n + 1, h, x0, x1, x2, x4, x5, x6, x7 => if 6 ≤ x7 then k_44 h x0 x1 x2 x4 x5 (x6 + 1)
  else (gi_fR h x0 5 4).bind fun y2 => (gi_fR h x0 5 0).bind fun y3 => if gi_is h y2 4 = true then (f_X4_mostLeft h y2 y3 x2 x6 x7).bind fun y4 => if x5 ≤ y4.1 then f_X5_ask_53 k_44 n y4.2 x0 x1 x2 x4 x5 x6 (x7 + 1)
  else f_X5_ask_53 k_44 n y4.2 x0 x1 x2 ((10 * x6) + x7) y4.1 x6 (x7 + 1) else none
set_option maxRecDepth 20000 in
set_option maxHeartbeats 2000000 in
theorem e_X5_ask_53 (k_44 : gi_H → Nat → Int32 → Int64 → Int32 → Int32 → Int32 → Option (Int32 × gi_H)) (hk_44 : ∀ (g3 : Option Value) (g7 : Option Value) (g8 : Option Value) (h : gi_H) (x0 : Nat) (x1 : Int32) (x2 : Int64) (x4 : Int32) (x5 : Int32) (x6 : Int32) (r : (Int32 × gi_H)), k_44 h x0 x1 x2 x4 x5 x6 = some r → gi_Ev M_X5_ask 44 [some (.ref x0), some (.int x1), some (.long x2), g3, some (.int x4), some (.int x5), some (.int x6), g7, g8] [] h (some (.int r.1), r.2)) : ∀ (n : Nat) (g3 : Option Value) (g8 : Option Value) (h : gi_H) (x0 : Nat) (x1 : Int32) (x2 : Int64) (x4 : Int32) (x5 : Int32) (x6 : Int32) (x7 : Int32) (r : (Int32 × gi_H)), f_X5_ask_53 k_44 n h x0 x1 x2 x4 x5 x6 x7 = some r → gi_Ev M_X5_ask 53 [some (.ref x0), some (.int x1), some (.long x2), g3, some (.int x4), some (.int x5), some (.int x6), some (.int x7), g8] [] h (some (.int r.1), r.2) := by
  intro n
  induction n with
  | zero =>
    intro g3 g8 h x0 x1 x2 x4 x5 x6 x7 r hf
    unfold f_X5_ask_53 at hf
    cases hf
  | succ n ih =>
    intro g3 g8 h x0 x1 x2 x4 x5 x6 x7 r hf
    unfold f_X5_ask_53 at hf
    refine gi_EvN 2 (pc' := 57) (lv' := [some (.ref x0), some (.int x1), some (.long x2), g3, some (.int x4), some (.int x5), some (.int x6), some (.int x7), g8]) (st' := [.int 6, .int x7]) (h' := h) rfl ?_
    refine gi_Ev_ige rfl (fun c1 => ?_) (fun c1 => ?_)
    · rw [if_pos c1] at hf
      refine gi_EvN 2 (pc' := 44) (lv' := [some (.ref x0), some (.int x1), some (.long x2), g3, some (.int x4), some (.int x5), some (.int (x6 + 1)), some (.int x7), g8]) (st' := []) (h' := h) rfl ?_
      exact hk_44 _ _ _ _ _  _  _  _  _  _ _ hf
    · rw [if_neg c1] at hf
      refine gi_EvN 1 (pc' := 61) (lv' := [some (.ref x0), some (.int x1), some (.long x2), g3, some (.int x4), some (.int x5), some (.int x6), some (.int x7), g8]) (st' := [.ref x0]) (h' := h) rfl ?_
      obtain ⟨y2, qy2, hf⟩ := gi_bind hf
      refine gi_EvF rfl (gi_fR_inv qy2) ?_
      refine gi_EvN 1 (pc' := 65) (lv' := [some (.ref x0), some (.int x1), some (.long x2), g3, some (.int x4), some (.int x5), some (.int x6), some (.int x7), g8]) (st' := [.ref x0, .ref y2]) (h' := h) rfl ?_
      obtain ⟨y3, qy3, hf⟩ := gi_bind hf
      refine gi_EvF rfl (gi_fR_inv qy3) ?_
      refine gi_EvN 3 (pc' := 73) (lv' := [some (.ref x0), some (.int x1), some (.long x2), g3, some (.int x4), some (.int x5), some (.int x6), some (.int x7), g8]) (st' := [.int x7, .int x6, .long x2, .ref y3, .ref y2]) (h' := h) rfl ?_
      by_cases c5 : gi_is h y2 4 = true
      rotate_left
      · rw [if_neg c5] at hf; cases hf
      rw [if_pos c5] at hf
      obtain ⟨y4, qy4, hf⟩ := gi_bind hf
      refine gi_EvCV rfl rfl c5 rfl rfl (e_X4_mostLeft h _ _ _ _ _ _ qy4) ?_
      show gi_Ev M_X5_ask 76 [some (.ref x0), some (.int x1), some (.long x2), g3, some (.int x4), some (.int x5), some (.int x6), some (.int x7), g8] [.int y4.1] y4.2 _
      refine gi_EvN 3 (pc' := 82) (lv' := [some (.ref x0), some (.int x1), some (.long x2), g3, some (.int x4), some (.int x5), some (.int x6), some (.int x7), some (.int y4.1)]) (st' := [.int x5, .int y4.1]) (h' := y4.2) rfl ?_
      refine gi_Ev_ige rfl (fun c6 => ?_) (fun c6 => ?_)
      · rw [if_pos c6] at hf
        refine gi_EvN 2 (pc' := 53) (lv' := [some (.ref x0), some (.int x1), some (.long x2), g3, some (.int x4), some (.int x5), some (.int x6), some (.int (x7 + 1)), some (.int y4.1)]) (st' := []) (h' := y4.2) rfl ?_
        exact ih _ _ _ _  _  _  _  _  _  _ _ hf
      · rw [if_neg c6] at hf
        refine gi_EvN 10 (pc' := 53) (lv' := [some (.ref x0), some (.int x1), some (.long x2), (gi_cl g3), some (.int ((10 * x6) + x7)), some (.int y4.1), some (.int x6), some (.int (x7 + 1)), some (.int y4.1)]) (st' := []) (h' := y4.2) rfl ?_
        exact ih _ _ _ _  _  _  _  _  _  _ _ hf
def f_X5_ask_111 (h : gi_H) (x1 : Int32) (x4 : Int32) (x5 : Int32) : Option (Int32 × gi_H) :=
  if x1 = 0 then some (x4, h)
  else some (x5, h)
set_option maxRecDepth 20000 in
set_option maxHeartbeats 2000000 in
theorem e_X5_ask_111 (g0 : Option Value) (g2 : Option Value) (g3 : Option Value) (g6 : Option Value) (g7 : Option Value) (g8 : Option Value) (h : gi_H) (x1 : Int32) (x4 : Int32) (x5 : Int32) (r : (Int32 × gi_H)) (hf : f_X5_ask_111 h x1 x4 x5 = some r) : gi_Ev M_X5_ask 111 [g0, some (.int x1), g2, g3, some (.int x4), some (.int x5), g6, g7, g8] [] h (some (.int r.1), r.2) := by
  unfold f_X5_ask_111 at hf
  refine gi_EvN 1 (pc' := 112) (lv' := [g0, some (.int x1), g2, g3, some (.int x4), some (.int x5), g6, g7, g8]) (st' := [.int x1]) (h' := h) rfl ?_
  refine gi_Ev_ne rfl (fun c1 => ?_) (fun c1 => ?_)
  · rw [if_pos c1] at hf
    refine gi_EvN 2 (pc' := 122) (lv' := [g0, some (.int x1), g2, g3, some (.int x4), some (.int x5), g6, g7, g8]) (st' := [.int x4]) (h' := h) rfl ?_
    cases hf
    exact gi_EvR rfl rfl
  · rw [if_neg c1] at hf
    refine gi_EvN 1 (pc' := 122) (lv' := [g0, some (.int x1), g2, g3, some (.int x4), some (.int x5), g6, g7, g8]) (st' := [.int x5]) (h' := h) rfl ?_
    cases hf
    exact gi_EvR rfl rfl
def f_X5_ask_44 : Nat → gi_H → Nat → Int32 → Int64 → Int32 → Int32 → Int32 → Option (Int32 × gi_H)
  | 0, _, _, _, _, _, _, _ => none
  | n + 1, h, x0, x1, x2, x4, x5, x6 => if 4 ≤ x6 then f_X5_ask_111 h x1 x4 x5
  else f_X5_ask_53 (f_X5_ask_44 n) gi_F h x0 x1 x2 x4 x5 x6 0
set_option maxRecDepth 20000 in
set_option maxHeartbeats 2000000 in
theorem e_X5_ask_44 : ∀ (n : Nat) (g3 : Option Value) (g7 : Option Value) (g8 : Option Value) (h : gi_H) (x0 : Nat) (x1 : Int32) (x2 : Int64) (x4 : Int32) (x5 : Int32) (x6 : Int32) (r : (Int32 × gi_H)), f_X5_ask_44 n h x0 x1 x2 x4 x5 x6 = some r → gi_Ev M_X5_ask 44 [some (.ref x0), some (.int x1), some (.long x2), g3, some (.int x4), some (.int x5), some (.int x6), g7, g8] [] h (some (.int r.1), r.2) := by
  intro n
  induction n with
  | zero =>
    intro g3 g7 g8 h x0 x1 x2 x4 x5 x6 r hf
    unfold f_X5_ask_44 at hf
    cases hf
  | succ n ih =>
    intro g3 g7 g8 h x0 x1 x2 x4 x5 x6 r hf
    unfold f_X5_ask_44 at hf
    refine gi_EvN 2 (pc' := 47) (lv' := [some (.ref x0), some (.int x1), some (.long x2), g3, some (.int x4), some (.int x5), some (.int x6), g7, g8]) (st' := [.int 4, .int x6]) (h' := h) rfl ?_
    refine gi_Ev_ige rfl (fun c1 => ?_) (fun c1 => ?_)
    · rw [if_pos c1] at hf
      exact e_X5_ask_111 _ _ _ _ _ _ h _ _ _ _ hf
    · rw [if_neg c1] at hf
      refine gi_EvN 2 (pc' := 53) (lv' := [some (.ref x0), some (.int x1), some (.long x2), g3, some (.int x4), some (.int x5), some (.int x6), some (.int 0), g8]) (st' := []) (h' := h) rfl ?_
      exact e_X5_ask_53 _ ih gi_F _ _ h _ _ _ _ _ _ _ _ hf
def f_X5_ask (h : gi_H) (x0 : Nat) (x1 : Int32) : Option (Int32 × gi_H) :=
  (f_X5_isWithin x1 0 1).bind fun y1 => if y1 = 0 then some ((-2), h)
  else (gi_fR h x0 5 4).bind fun y3 => (gi_fR h x0 5 0).bind fun y4 => if gi_is h y3 4 = true then (f_X4_fitting h y3 y4).bind fun y5 => if (lg_cmp y5 0) = 0 then some ((-6), h)
  else f_X5_ask_44 gi_F h x0 x1 y5 (-6) 2147483647 0 else none
set_option maxRecDepth 20000 in
set_option maxHeartbeats 2000000 in
theorem e_X5_ask (h : gi_H) (x0 : Nat) (x1 : Int32) (r : (Int32 × gi_H)) (hf : f_X5_ask h x0 x1 = some r) : gi_Ev M_X5_ask 0 [some (.ref x0), some (.int x1), none, none, none, none, none, none, none] [] h (some (.int r.1), r.2) := by
  unfold f_X5_ask at hf
  refine gi_EvN 3 (pc' := 3) (lv' := [some (.ref x0), some (.int x1), none, none, none, none, none, none, none]) (st' := [.int 1, .int 0, .int x1]) (h' := h) rfl ?_
  obtain ⟨y1, qy1, hf⟩ := gi_bind hf
  refine gi_EvCS rfl rfl rfl rfl rfl (e_X5_isWithin h _ _ _ _ qy1) ?_
  show gi_Ev M_X5_ask 6 [some (.ref x0), some (.int x1), none, none, none, none, none, none, none] [.int y1] h _
  refine gi_Ev_ne rfl (fun c2 => ?_) (fun c2 => ?_)
  · rw [if_pos c2] at hf
    refine gi_EvN 1 (pc' := 11) (lv' := [some (.ref x0), some (.int x1), none, none, none, none, none, none, none]) (st' := [.int (-2)]) (h' := h) rfl ?_
    cases hf
    exact gi_EvR rfl rfl
  · rw [if_neg c2] at hf
    refine gi_EvN 1 (pc' := 13) (lv' := [some (.ref x0), some (.int x1), none, none, none, none, none, none, none]) (st' := [.ref x0]) (h' := h) rfl ?_
    obtain ⟨y3, qy3, hf⟩ := gi_bind hf
    refine gi_EvF rfl (gi_fR_inv qy3) ?_
    refine gi_EvN 1 (pc' := 17) (lv' := [some (.ref x0), some (.int x1), none, none, none, none, none, none, none]) (st' := [.ref x0, .ref y3]) (h' := h) rfl ?_
    obtain ⟨y4, qy4, hf⟩ := gi_bind hf
    refine gi_EvF rfl (gi_fR_inv qy4) ?_
    by_cases c6 : gi_is h y3 4 = true
    rotate_left
    · rw [if_neg c6] at hf; cases hf
    rw [if_pos c6] at hf
    obtain ⟨y5, qy5, hf⟩ := gi_bind hf
    refine gi_EvCV rfl rfl c6 rfl rfl (e_X4_fitting h _ _ _ qy5) ?_
    show gi_Ev M_X5_ask 23 [some (.ref x0), some (.int x1), none, none, none, none, none, none, none] [.long y5] h _
    refine gi_EvN 4 (pc' := 27) (lv' := [some (.ref x0), some (.int x1), some (.long y5), none, none, none, none, none, none]) (st' := [.int (lg_cmp y5 0)]) (h' := h) rfl ?_
    refine gi_Ev_ne rfl (fun c7 => ?_) (fun c7 => ?_)
    · rw [if_pos c7] at hf
      refine gi_EvN 1 (pc' := 32) (lv' := [some (.ref x0), some (.int x1), some (.long y5), none, none, none, none, none, none]) (st' := [.int (-6)]) (h' := h) rfl ?_
      cases hf
      exact gi_EvR rfl rfl
    · rw [if_neg c7] at hf
      refine gi_EvN 6 (pc' := 44) (lv' := [some (.ref x0), some (.int x1), some (.long y5), none, some (.int (-6)), some (.int 2147483647), some (.int 0), none, none]) (st' := []) (h' := h) rfl ?_
      exact e_X5_ask_44 gi_F _ _ _ h _ _ _ _ _ _ _ hf
/-! X5_areWants AdmiralGuinea.areWants(I)Z -/
def f_X5_areWants_15 : Nat → Int32 → Int32 → Option Int32
  | 0, _, _ => none
  | n + 1, x0, x1 => if 4 ≤ x1 then some (1)
  else (f_X5_digitOf x0 4 x1).bind fun y2 => if y2 ≤ 6 then f_X5_areWants_15 n x0 (x1 + 1)
  else some (0)
set_option maxRecDepth 20000 in
set_option maxHeartbeats 2000000 in
theorem e_X5_areWants_15 (h : gi_H) : ∀ (n : Nat) (x0 : Int32) (x1 : Int32) (r : Int32), f_X5_areWants_15 n x0 x1 = some r → gi_Ev M_X5_areWants 15 [some (.int x0), some (.int x1)] [] h (some (.int r), h) := by
  intro n
  induction n with
  | zero =>
    intro x0 x1 r hf
    unfold f_X5_areWants_15 at hf
    cases hf
  | succ n ih =>
    intro x0 x1 r hf
    unfold f_X5_areWants_15 at hf
    refine gi_EvN 2 (pc' := 17) (lv' := [some (.int x0), some (.int x1)]) (st' := [.int 4, .int x1]) (h' := h) rfl ?_
    refine gi_Ev_ige rfl (fun c1 => ?_) (fun c1 => ?_)
    · rw [if_pos c1] at hf
      refine gi_EvN 1 (pc' := 40) (lv' := [some (.int x0), some (.int x1)]) (st' := [.int 1]) (h' := h) rfl ?_
      cases hf
      exact gi_EvR rfl rfl
    · rw [if_neg c1] at hf
      refine gi_EvN 3 (pc' := 23) (lv' := [some (.int x0), some (.int x1)]) (st' := [.int x1, .int 4, .int x0]) (h' := h) rfl ?_
      obtain ⟨y2, qy2, hf⟩ := gi_bind hf
      refine gi_EvCS rfl rfl rfl rfl rfl (e_X5_digitOf h _ _ _ _ qy2) ?_
      show gi_Ev M_X5_areWants 26 [some (.int x0), some (.int x1)] [.int y2] h _
      refine gi_EvN 1 (pc' := 28) (lv' := [some (.int x0), some (.int x1)]) (st' := [.int 6, .int y2]) (h' := h) rfl ?_
      refine gi_Ev_ile rfl (fun c3 => ?_) (fun c3 => ?_)
      · rw [if_pos c3] at hf
        refine gi_EvN 2 (pc' := 15) (lv' := [some (.int x0), some (.int (x1 + 1))]) (st' := []) (h' := h) rfl ?_
        exact ih   _  _ _ hf
      · rw [if_neg c3] at hf
        refine gi_EvN 1 (pc' := 32) (lv' := [some (.int x0), some (.int x1)]) (st' := [.int 0]) (h' := h) rfl ?_
        cases hf
        exact gi_EvR rfl rfl
def f_X5_areWants (x0 : Int32) : Option Int32 :=
  (f_X5_isWithin x0 0 6666).bind fun y1 => if y1 = 0 then some (0)
  else f_X5_areWants_15 gi_F x0 0
set_option maxRecDepth 20000 in
set_option maxHeartbeats 2000000 in
theorem e_X5_areWants (h : gi_H) (x0 : Int32) (r : Int32) (hf : f_X5_areWants x0 = some r) : gi_Ev M_X5_areWants 0 [some (.int x0), none] [] h (some (.int r), h) := by
  unfold f_X5_areWants at hf
  refine gi_EvN 3 (pc' := 5) (lv' := [some (.int x0), none]) (st' := [.int 6666, .int 0, .int x0]) (h' := h) rfl ?_
  obtain ⟨y1, qy1, hf⟩ := gi_bind hf
  refine gi_EvCS rfl rfl rfl rfl rfl (e_X5_isWithin h _ _ _ _ qy1) ?_
  show gi_Ev M_X5_areWants 8 [some (.int x0), none] [.int y1] h _
  refine gi_Ev_ne rfl (fun c2 => ?_) (fun c2 => ?_)
  · rw [if_pos c2] at hf
    refine gi_EvN 1 (pc' := 12) (lv' := [some (.int x0), none]) (st' := [.int 0]) (h' := h) rfl ?_
    cases hf
    exact gi_EvR rfl rfl
  · rw [if_neg c2] at hf
    refine gi_EvN 2 (pc' := 15) (lv' := [some (.int x0), some (.int 0)]) (st' := []) (h' := h) rfl ?_
    exact e_X5_areWants_15 h gi_F _ _ _ hf
/-! X5_onlyOneWho AdmiralGuinea.onlyOneWho(II)I -/
def f_X5_onlyOneWho_5 : Nat → Int32 → Int32 → Int32 → Int32 → Option Int32
  | 0, _, _, _, _ => none
  | n + 1, x0, x1, x2, x3 => if 4 ≤ x3 then some (x2)
  else (f_X5_digitOf x0 4 x3).bind fun y2 => if y2 = x1 then if x2 = (-6) then f_X5_onlyOneWho_5 n x0 x1 x3 (x3 + 1)
  else some ((-6))
  else f_X5_onlyOneWho_5 n x0 x1 x2 (x3 + 1)
set_option maxRecDepth 20000 in
set_option maxHeartbeats 2000000 in
theorem e_X5_onlyOneWho_5 (h : gi_H) : ∀ (n : Nat) (x0 : Int32) (x1 : Int32) (x2 : Int32) (x3 : Int32) (r : Int32), f_X5_onlyOneWho_5 n x0 x1 x2 x3 = some r → gi_Ev M_X5_onlyOneWho 5 [some (.int x0), some (.int x1), some (.int x2), some (.int x3)] [] h (some (.int r), h) := by
  intro n
  induction n with
  | zero =>
    intro x0 x1 x2 x3 r hf
    unfold f_X5_onlyOneWho_5 at hf
    cases hf
  | succ n ih =>
    intro x0 x1 x2 x3 r hf
    unfold f_X5_onlyOneWho_5 at hf
    refine gi_EvN 2 (pc' := 7) (lv' := [some (.int x0), some (.int x1), some (.int x2), some (.int x3)]) (st' := [.int 4, .int x3]) (h' := h) rfl ?_
    refine gi_Ev_ige rfl (fun c1 => ?_) (fun c1 => ?_)
    · rw [if_pos c1] at hf
      refine gi_EvN 1 (pc' := 38) (lv' := [some (.int x0), some (.int x1), some (.int x2), some (.int x3)]) (st' := [.int x2]) (h' := h) rfl ?_
      cases hf
      exact gi_EvR rfl rfl
    · rw [if_neg c1] at hf
      refine gi_EvN 3 (pc' := 13) (lv' := [some (.int x0), some (.int x1), some (.int x2), some (.int x3)]) (st' := [.int x3, .int 4, .int x0]) (h' := h) rfl ?_
      obtain ⟨y2, qy2, hf⟩ := gi_bind hf
      refine gi_EvCS rfl rfl rfl rfl rfl (e_X5_digitOf h _ _ _ _ qy2) ?_
      show gi_Ev M_X5_onlyOneWho 16 [some (.int x0), some (.int x1), some (.int x2), some (.int x3)] [.int y2] h _
      refine gi_EvN 1 (pc' := 17) (lv' := [some (.int x0), some (.int x1), some (.int x2), some (.int x3)]) (st' := [.int x1, .int y2]) (h' := h) rfl ?_
      refine gi_Ev_ine rfl (fun c3 => ?_) (fun c3 => ?_)
      · rw [if_pos c3] at hf
        refine gi_EvN 2 (pc' := 23) (lv' := [some (.int x0), some (.int x1), some (.int x2), some (.int x3)]) (st' := [.int (-6), .int x2]) (h' := h) rfl ?_
        refine gi_Ev_ieq rfl (fun c4 => ?_) (fun c4 => ?_)
        · rw [if_pos c4] at hf
          refine gi_EvN 4 (pc' := 5) (lv' := [some (.int x0), some (.int x1), some (.int x3), some (.int (x3 + 1))]) (st' := []) (h' := h) rfl ?_
          exact ih   _  _  _  _ _ hf
        · rw [if_neg c4] at hf
          refine gi_EvN 1 (pc' := 28) (lv' := [some (.int x0), some (.int x1), some (.int x2), some (.int x3)]) (st' := [.int (-6)]) (h' := h) rfl ?_
          cases hf
          exact gi_EvR rfl rfl
      · rw [if_neg c3] at hf
        refine gi_EvN 2 (pc' := 5) (lv' := [some (.int x0), some (.int x1), some (.int x2), some (.int (x3 + 1))]) (st' := []) (h' := h) rfl ?_
        exact ih   _  _  _  _ _ hf
def f_X5_onlyOneWho (x0 : Int32) (x1 : Int32) : Option Int32 :=
  f_X5_onlyOneWho_5 gi_F x0 x1 (-6) 0
set_option maxRecDepth 20000 in
set_option maxHeartbeats 2000000 in
theorem e_X5_onlyOneWho (h : gi_H) (x0 : Int32) (x1 : Int32) (r : Int32) (hf : f_X5_onlyOneWho x0 x1 = some r) : gi_Ev M_X5_onlyOneWho 0 [some (.int x0), some (.int x1), none, none] [] h (some (.int r), h) := by
  unfold f_X5_onlyOneWho at hf
  refine gi_EvN 4 (pc' := 5) (lv' := [some (.int x0), some (.int x1), some (.int (-6)), some (.int 0)]) (st' := []) (h' := h) rfl ?_
  exact e_X5_onlyOneWho_5 h gi_F _ _ _ _ _ hf
/-! X5_pass AdmiralGuinea.pass(I)I -/
def f_X5_pass_14 (h : gi_H) : Nat → Nat → Int32 → Int32 → Int32 → Option Int32
  | 0, _, _, _, _ => none
  | n + 1, x0, x1, x2, x3 => if 12 ≤ x3 then some (x2)
  else (gi_fR h x0 5 0).bind fun y2 => if gi_is h y2 0 = true then (f_X0_stands h y2 x3).bind fun y3 => if y3 = 0 then f_X5_pass_14 h n x0 x1 x2 (x3 + 1)
  else (gi_fR h x0 5 0).bind fun y6 => (gi_fR h y6 0 9).bind fun y7 => (gi_ai h y7 0 x3).bind fun y8 => (f_X5_onlyOneWho x1 y8).bind fun y9 => if y9 = (-6) then some ((-6))
  else (gi_fR h x0 5 0).bind fun y11 => (gi_fR h y11 0 8).bind fun y12 => (gi_ai h y12 0 x3).bind fun y13 => if y9 = y13 then f_X5_pass_14 h n x0 x1 x2 (x3 + 1)
  else f_X5_pass_14 h n x0 x1 (x2 + 1) (x3 + 1) else none
set_option maxRecDepth 20000 in
set_option maxHeartbeats 2000000 in
theorem e_X5_pass_14 (h : gi_H) : ∀ (n : Nat) (g4 : Option Value) (x0 : Nat) (x1 : Int32) (x2 : Int32) (x3 : Int32) (r : Int32), f_X5_pass_14 h n x0 x1 x2 x3 = some r → gi_Ev M_X5_pass 14 [some (.ref x0), some (.int x1), some (.int x2), some (.int x3), g4] [] h (some (.int r), h) := by
  intro n
  induction n with
  | zero =>
    intro g4 x0 x1 x2 x3 r hf
    unfold f_X5_pass_14 at hf
    cases hf
  | succ n ih =>
    intro g4 x0 x1 x2 x3 r hf
    unfold f_X5_pass_14 at hf
    refine gi_EvN 2 (pc' := 17) (lv' := [some (.ref x0), some (.int x1), some (.int x2), some (.int x3), g4]) (st' := [.int 12, .int x3]) (h' := h) rfl ?_
    refine gi_Ev_ige rfl (fun c1 => ?_) (fun c1 => ?_)
    · rw [if_pos c1] at hf
      refine gi_EvN 1 (pc' := 80) (lv' := [some (.ref x0), some (.int x1), some (.int x2), some (.int x3), g4]) (st' := [.int x2]) (h' := h) rfl ?_
      cases hf
      exact gi_EvR rfl rfl
    · rw [if_neg c1] at hf
      refine gi_EvN 1 (pc' := 21) (lv' := [some (.ref x0), some (.int x1), some (.int x2), some (.int x3), g4]) (st' := [.ref x0]) (h' := h) rfl ?_
      obtain ⟨y2, qy2, hf⟩ := gi_bind hf
      refine gi_EvF rfl (gi_fR_inv qy2) ?_
      refine gi_EvN 1 (pc' := 25) (lv' := [some (.ref x0), some (.int x1), some (.int x2), some (.int x3), g4]) (st' := [.int x3, .ref y2]) (h' := h) rfl ?_
      by_cases c4 : gi_is h y2 0 = true
      rotate_left
      · rw [if_neg c4] at hf; cases hf
      rw [if_pos c4] at hf
      obtain ⟨y3, qy3, hf⟩ := gi_bind hf
      refine gi_EvCV rfl rfl c4 rfl rfl (e_X0_stands h _ _ _ qy3) ?_
      show gi_Ev M_X5_pass 28 [some (.ref x0), some (.int x1), some (.int x2), some (.int x3), g4] [.int y3] h _
      refine gi_Ev_eq rfl (fun c5 => ?_) (fun c5 => ?_)
      · rw [if_pos c5] at hf
        refine gi_EvN 2 (pc' := 14) (lv' := [some (.ref x0), some (.int x1), some (.int x2), some (.int (x3 + 1)), g4]) (st' := []) (h' := h) rfl ?_
        exact ih _  _  _  _  _ _ hf
      · rw [if_neg c5] at hf
        refine gi_EvN 2 (pc' := 33) (lv' := [some (.ref x0), some (.int x1), some (.int x2), some (.int x3), g4]) (st' := [.ref x0, .int x1]) (h' := h) rfl ?_
        obtain ⟨y6, qy6, hf⟩ := gi_bind hf
        refine gi_EvF rfl (gi_fR_inv qy6) ?_
        obtain ⟨y7, qy7, hf⟩ := gi_bind hf
        refine gi_EvF rfl (gi_fR_inv qy7) ?_
        refine gi_EvN 1 (pc' := 40) (lv' := [some (.ref x0), some (.int x1), some (.int x2), some (.int x3), g4]) (st' := [.int x3, .ref y7, .int x1]) (h' := h) rfl ?_
        obtain ⟨y8, qy8, hf⟩ := gi_bind hf
        refine gi_EvAi rfl qy8 ?_
        obtain ⟨y9, qy9, hf⟩ := gi_bind hf
        refine gi_EvCS rfl rfl rfl rfl rfl (e_X5_onlyOneWho h _ _ _ qy9) ?_
        show gi_Ev M_X5_pass 44 [some (.ref x0), some (.int x1), some (.int x2), some (.int x3), g4] [.int y9] h _
        refine gi_EvN 3 (pc' := 50) (lv' := [some (.ref x0), some (.int x1), some (.int x2), some (.int x3), some (.int y9)]) (st' := [.int (-6), .int y9]) (h' := h) rfl ?_
        refine gi_Ev_ine rfl (fun c10 => ?_) (fun c10 => ?_)
        · rw [if_pos c10] at hf
          refine gi_EvN 1 (pc' := 55) (lv' := [some (.ref x0), some (.int x1), some (.int x2), some (.int x3), some (.int y9)]) (st' := [.int (-6)]) (h' := h) rfl ?_
          cases hf
          exact gi_EvR rfl rfl
        · rw [if_neg c10] at hf
          refine gi_EvN 2 (pc' := 59) (lv' := [some (.ref x0), some (.int x1), some (.int x2), some (.int x3), some (.int y9)]) (st' := [.ref x0, .int y9]) (h' := h) rfl ?_
          obtain ⟨y11, qy11, hf⟩ := gi_bind hf
          refine gi_EvF rfl (gi_fR_inv qy11) ?_
          obtain ⟨y12, qy12, hf⟩ := gi_bind hf
          refine gi_EvF rfl (gi_fR_inv qy12) ?_
          refine gi_EvN 1 (pc' := 66) (lv' := [some (.ref x0), some (.int x1), some (.int x2), some (.int x3), some (.int y9)]) (st' := [.int x3, .ref y12, .int y9]) (h' := h) rfl ?_
          obtain ⟨y13, qy13, hf⟩ := gi_bind hf
          refine gi_EvAi rfl qy13 ?_
          refine gi_Ev_ieq rfl (fun c14 => ?_) (fun c14 => ?_)
          · rw [if_pos c14] at hf
            refine gi_EvN 2 (pc' := 14) (lv' := [some (.ref x0), some (.int x1), some (.int x2), some (.int (x3 + 1)), some (.int y9)]) (st' := []) (h' := h) rfl ?_
            exact ih _  _  _  _  _ _ hf
          · rw [if_neg c14] at hf
            refine gi_EvN 3 (pc' := 14) (lv' := [some (.ref x0), some (.int x1), some (.int (x2 + 1)), some (.int (x3 + 1)), some (.int y9)]) (st' := []) (h' := h) rfl ?_
            exact ih _  _  _  _  _ _ hf
def f_X5_pass (h : gi_H) (x0 : Nat) (x1 : Int32) : Option Int32 :=
  (f_X5_areWants x1).bind fun y1 => if y1 = 0 then some ((-2))
  else f_X5_pass_14 h gi_F x0 x1 0 0
set_option maxRecDepth 20000 in
set_option maxHeartbeats 2000000 in
theorem e_X5_pass (h : gi_H) (x0 : Nat) (x1 : Int32) (r : Int32) (hf : f_X5_pass h x0 x1 = some r) : gi_Ev M_X5_pass 0 [some (.ref x0), some (.int x1), none, none, none] [] h (some (.int r), h) := by
  unfold f_X5_pass at hf
  refine gi_EvN 1 (pc' := 1) (lv' := [some (.ref x0), some (.int x1), none, none, none]) (st' := [.int x1]) (h' := h) rfl ?_
  obtain ⟨y1, qy1, hf⟩ := gi_bind hf
  refine gi_EvCS rfl rfl rfl rfl rfl (e_X5_areWants h _ _ qy1) ?_
  show gi_Ev M_X5_pass 4 [some (.ref x0), some (.int x1), none, none, none] [.int y1] h _
  refine gi_Ev_ne rfl (fun c2 => ?_) (fun c2 => ?_)
  · rw [if_pos c2] at hf
    refine gi_EvN 1 (pc' := 9) (lv' := [some (.ref x0), some (.int x1), none, none, none]) (st' := [.int (-2)]) (h' := h) rfl ?_
    cases hf
    exact gi_EvR rfl rfl
  · rw [if_neg c2] at hf
    refine gi_EvN 4 (pc' := 14) (lv' := [some (.ref x0), some (.int x1), some (.int 0), some (.int 0), none]) (st' := []) (h' := h) rfl ?_
    exact e_X5_pass_14 h gi_F _ _ _ _ _ _ hf
/-! X5_choices AdmiralGuinea.choices(II)J -/
def f_X5_choices_5 : Nat → Int32 → Int32 → Int64 → Int32 → Option Int64
  | 0, _, _, _, _ => none
  | n + 1, x0, x1, x2, x4 => if x1 < x4 then some (x2)
  else if (Int32.toInt64 x4) = 0 then none else f_X5_choices_5 n x0 x1 ((x2 * (Int32.toInt64 ((x0 - x1) + x4))) / (Int32.toInt64 x4)) (x4 + 1)
set_option maxRecDepth 20000 in
set_option maxHeartbeats 2000000 in
theorem e_X5_choices_5 (h : gi_H) : ∀ (n : Nat) (g3 : Option Value) (x0 : Int32) (x1 : Int32) (x2 : Int64) (x4 : Int32) (r : Int64), f_X5_choices_5 n x0 x1 x2 x4 = some r → gi_Ev M_X5_choices 5 [some (.int x0), some (.int x1), some (.long x2), g3, some (.int x4)] [] h (some (.long r), h) := by
  intro n
  induction n with
  | zero =>
    intro g3 x0 x1 x2 x4 r hf
    unfold f_X5_choices_5 at hf
    cases hf
  | succ n ih =>
    intro g3 x0 x1 x2 x4 r hf
    unfold f_X5_choices_5 at hf
    refine gi_EvN 2 (pc' := 8) (lv' := [some (.int x0), some (.int x1), some (.long x2), g3, some (.int x4)]) (st' := [.int x1, .int x4]) (h' := h) rfl ?_
    refine gi_Ev_igt rfl (fun c1 => ?_) (fun c1 => ?_)
    · rw [if_pos c1] at hf
      refine gi_EvN 1 (pc' := 32) (lv' := [some (.int x0), some (.int x1), some (.long x2), g3, some (.int x4)]) (st' := [.long x2]) (h' := h) rfl ?_
      cases hf
      exact gi_EvR rfl rfl
    · rw [if_neg c1] at hf
      refine gi_EvN 10 (pc' := 23) (lv' := [some (.int x0), some (.int x1), some (.long x2), g3, some (.int x4)]) (st' := [.long (Int32.toInt64 x4), .long (x2 * (Int32.toInt64 ((x0 - x1) + x4)))]) (h' := h) rfl ?_
      by_cases c2 : (Int32.toInt64 x4) = 0
      · rw [if_pos c2] at hf; cases hf
      rw [if_neg c2] at hf
      refine gi_EvDl rfl c2 ?_
      refine gi_EvN 3 (pc' := 5) (lv' := [some (.int x0), some (.int x1), some (.long ((x2 * (Int32.toInt64 ((x0 - x1) + x4))) / (Int32.toInt64 x4))), none, some (.int (x4 + 1))]) (st' := []) (h' := h) rfl ?_
      exact ih _  _  _  _  _ _ hf
def f_X5_choices (x0 : Int32) (x1 : Int32) : Option Int64 :=
  f_X5_choices_5 gi_F x0 x1 1 1
set_option maxRecDepth 20000 in
set_option maxHeartbeats 2000000 in
theorem e_X5_choices (h : gi_H) (x0 : Int32) (x1 : Int32) (r : Int64) (hf : f_X5_choices x0 x1 = some r) : gi_Ev M_X5_choices 0 [some (.int x0), some (.int x1), none, none, none] [] h (some (.long r), h) := by
  unfold f_X5_choices at hf
  refine gi_EvN 4 (pc' := 5) (lv' := [some (.int x0), some (.int x1), some (.long 1), none, some (.int 1)]) (st' := []) (h' := h) rfl ?_
  exact e_X5_choices_5 h gi_F _ _ _ _ _ _ hf
/-! X5_bets AdmiralGuinea.bets(IIII)J -/
def f_X5_bets (x0 : Nat) (x1 : Int32) (x2 : Int32) (x3 : Int32) (x4 : Int32) : Option Int64 :=
  (f_X5_isWithin x1 0 12).bind fun y1 => if y1 = 0 then some ((-1000000000000000002))
  else (f_X5_isWithin x2 0 x1).bind fun y3 => if y3 = 0 then some ((-1000000000000000002))
  else (f_X5_isWithin x3 0 10).bind fun y5 => if y5 = 0 then some ((-1000000000000000002))
  else (f_X5_isPart x4).bind fun y7 => if y7 = 0 then some ((-1000000000000000002))
  else (f_X5_choices x1 x2).bind fun y9 => (f_X5_power (Int32.toInt64 x3) x2).bind fun y10 => (f_X5_power (Int32.toInt64 (10 - x3)) (x1 - x2)).bind fun y11 => (f_X5_power 10 x1).bind fun y12 => (f_X5_lowest ((y9 * y10) * y11) y12 x4).bind fun y13 => some (y13)
set_option maxRecDepth 20000 in
set_option maxHeartbeats 2000000 in
theorem e_X5_bets (h : gi_H) (x0 : Nat) (x1 : Int32) (x2 : Int32) (x3 : Int32) (x4 : Int32) (r : Int64) (hf : f_X5_bets x0 x1 x2 x3 x4 = some r) : gi_Ev M_X5_bets 0 [some (.ref x0), some (.int x1), some (.int x2), some (.int x3), some (.int x4), none, none] [] h (some (.long r), h) := by
  unfold f_X5_bets at hf
  refine gi_EvN 3 (pc' := 4) (lv' := [some (.ref x0), some (.int x1), some (.int x2), some (.int x3), some (.int x4), none, none]) (st' := [.int 12, .int 0, .int x1]) (h' := h) rfl ?_
  obtain ⟨y1, qy1, hf⟩ := gi_bind hf
  refine gi_EvCS rfl rfl rfl rfl rfl (e_X5_isWithin h _ _ _ _ qy1) ?_
  show gi_Ev M_X5_bets 7 [some (.ref x0), some (.int x1), some (.int x2), some (.int x3), some (.int x4), none, none] [.int y1] h _
  refine gi_Ev_eq rfl (fun c2 => ?_) (fun c2 => ?_)
  · rw [if_pos c2] at hf
    refine gi_EvN 1 (pc' := 40) (lv' := [some (.ref x0), some (.int x1), some (.int x2), some (.int x3), some (.int x4), none, none]) (st' := [.long (-1000000000000000002)]) (h' := h) rfl ?_
    cases hf
    exact gi_EvR rfl rfl
  · rw [if_neg c2] at hf
    refine gi_EvN 3 (pc' := 13) (lv' := [some (.ref x0), some (.int x1), some (.int x2), some (.int x3), some (.int x4), none, none]) (st' := [.int x1, .int 0, .int x2]) (h' := h) rfl ?_
    obtain ⟨y3, qy3, hf⟩ := gi_bind hf
    refine gi_EvCS rfl rfl rfl rfl rfl (e_X5_isWithin h _ _ _ _ qy3) ?_
    show gi_Ev M_X5_bets 16 [some (.ref x0), some (.int x1), some (.int x2), some (.int x3), some (.int x4), none, none] [.int y3] h _
    refine gi_Ev_eq rfl (fun c4 => ?_) (fun c4 => ?_)
    · rw [if_pos c4] at hf
      refine gi_EvN 1 (pc' := 40) (lv' := [some (.ref x0), some (.int x1), some (.int x2), some (.int x3), some (.int x4), none, none]) (st' := [.long (-1000000000000000002)]) (h' := h) rfl ?_
      cases hf
      exact gi_EvR rfl rfl
    · rw [if_neg c4] at hf
      refine gi_EvN 3 (pc' := 23) (lv' := [some (.ref x0), some (.int x1), some (.int x2), some (.int x3), some (.int x4), none, none]) (st' := [.int 10, .int 0, .int x3]) (h' := h) rfl ?_
      obtain ⟨y5, qy5, hf⟩ := gi_bind hf
      refine gi_EvCS rfl rfl rfl rfl rfl (e_X5_isWithin h _ _ _ _ qy5) ?_
      show gi_Ev M_X5_bets 26 [some (.ref x0), some (.int x1), some (.int x2), some (.int x3), some (.int x4), none, none] [.int y5] h _
      refine gi_Ev_eq rfl (fun c6 => ?_) (fun c6 => ?_)
      · rw [if_pos c6] at hf
        refine gi_EvN 1 (pc' := 40) (lv' := [some (.ref x0), some (.int x1), some (.int x2), some (.int x3), some (.int x4), none, none]) (st' := [.long (-1000000000000000002)]) (h' := h) rfl ?_
        cases hf
        exact gi_EvR rfl rfl
      · rw [if_neg c6] at hf
        refine gi_EvN 1 (pc' := 31) (lv' := [some (.ref x0), some (.int x1), some (.int x2), some (.int x3), some (.int x4), none, none]) (st' := [.int x4]) (h' := h) rfl ?_
        obtain ⟨y7, qy7, hf⟩ := gi_bind hf
        refine gi_EvCS rfl rfl rfl rfl rfl (e_X5_isPart h _ _ qy7) ?_
        show gi_Ev M_X5_bets 34 [some (.ref x0), some (.int x1), some (.int x2), some (.int x3), some (.int x4), none, none] [.int y7] h _
        refine gi_Ev_ne rfl (fun c8 => ?_) (fun c8 => ?_)
        · rw [if_pos c8] at hf
          refine gi_EvN 1 (pc' := 40) (lv' := [some (.ref x0), some (.int x1), some (.int x2), some (.int x3), some (.int x4), none, none]) (st' := [.long (-1000000000000000002)]) (h' := h) rfl ?_
          cases hf
          exact gi_EvR rfl rfl
        · rw [if_neg c8] at hf
          refine gi_EvN 2 (pc' := 43) (lv' := [some (.ref x0), some (.int x1), some (.int x2), some (.int x3), some (.int x4), none, none]) (st' := [.int x2, .int x1]) (h' := h) rfl ?_
          obtain ⟨y9, qy9, hf⟩ := gi_bind hf
          refine gi_EvCS rfl rfl rfl rfl rfl (e_X5_choices h _ _ _ qy9) ?_
          show gi_Ev M_X5_bets 46 [some (.ref x0), some (.int x1), some (.int x2), some (.int x3), some (.int x4), none, none] [.long y9] h _
          refine gi_EvN 3 (pc' := 49) (lv' := [some (.ref x0), some (.int x1), some (.int x2), some (.int x3), some (.int x4), none, none]) (st' := [.int x2, .long (Int32.toInt64 x3), .long y9]) (h' := h) rfl ?_
          obtain ⟨y10, qy10, hf⟩ := gi_bind hf
          refine gi_EvCS rfl rfl rfl rfl rfl (e_X5_power h _ _ _ qy10) ?_
          show gi_Ev M_X5_bets 52 [some (.ref x0), some (.int x1), some (.int x2), some (.int x3), some (.int x4), none, none] [.long y10, .long y9] h _
          refine gi_EvN 8 (pc' := 61) (lv' := [some (.ref x0), some (.int x1), some (.int x2), some (.int x3), some (.int x4), none, none]) (st' := [.int (x1 - x2), .long (Int32.toInt64 (10 - x3)), .long (y9 * y10)]) (h' := h) rfl ?_
          obtain ⟨y11, qy11, hf⟩ := gi_bind hf
          refine gi_EvCS rfl rfl rfl rfl rfl (e_X5_power h _ _ _ qy11) ?_
          show gi_Ev M_X5_bets 64 [some (.ref x0), some (.int x1), some (.int x2), some (.int x3), some (.int x4), none, none] [.long y11, .long (y9 * y10)] h _
          refine gi_EvN 5 (pc' := 73) (lv' := [some (.ref x0), some (.int x1), some (.int x2), some (.int x3), some (.int x4), some (.long ((y9 * y10) * y11)), none]) (st' := [.int x1, .long 10, .long ((y9 * y10) * y11)]) (h' := h) rfl ?_
          obtain ⟨y12, qy12, hf⟩ := gi_bind hf
          refine gi_EvCS rfl rfl rfl rfl rfl (e_X5_power h _ _ _ qy12) ?_
          show gi_Ev M_X5_bets 76 [some (.ref x0), some (.int x1), some (.int x2), some (.int x3), some (.int x4), some (.long ((y9 * y10) * y11)), none] [.long y12, .long ((y9 * y10) * y11)] h _
          refine gi_EvN 1 (pc' := 78) (lv' := [some (.ref x0), some (.int x1), some (.int x2), some (.int x3), some (.int x4), some (.long ((y9 * y10) * y11)), none]) (st' := [.int x4, .long y12, .long ((y9 * y10) * y11)]) (h' := h) rfl ?_
          obtain ⟨y13, qy13, hf⟩ := gi_bind hf
          refine gi_EvCS rfl rfl rfl rfl rfl (e_X5_lowest h _ _ _ _ qy13) ?_
          show gi_Ev M_X5_bets 81 [some (.ref x0), some (.int x1), some (.int x2), some (.int x3), some (.int x4), some (.long ((y9 * y10) * y11)), none] [.long y13] h _
          cases hf
          exact gi_EvR rfl rfl
/-! X5_year AdmiralGuinea.year(III)I -/
def f_X5_year (h : gi_H) (x0 : Nat) (x1 : Int32) (x2 : Int32) (x3 : Int32) : Option (Int32 × gi_H) :=
  (f_X5_isWithin x1 0 9999).bind fun y1 => if y1 = 0 then some ((-2), h)
  else (f_X5_isWithin x2 1 60).bind fun y3 => if y3 = 0 then some ((-2), h)
  else (f_X5_isWithin x3 0 2).bind fun y5 => if y5 = 0 then some ((-2), h)
  else (gi_fR h x0 5 1).bind fun y7 => (gi_fR h x0 5 0).bind fun y8 => if gi_is h y7 1 = true then (f_X1_drawMonths h y7 y8 x1 x2).bind fun h9 => if x3 = 0 then (gi_fR h9 x0 5 1).bind fun y12 => (gi_fR h9 y12 1 0).bind fun y13 => if gi_is h9 y13 0 = true then (f_X0_allCash h9 y13).bind fun y14 => some (y14, h9) else none
  else if x3 = 1 then (gi_fR h9 x0 5 1).bind fun y17 => (gi_fR h9 y17 1 0).bind fun y18 => (gi_fI h9 y18 0 1).bind fun y19 => some (y19, h9)
  else (gi_fR h9 x0 5 1).bind fun y20 => (gi_fR h9 y20 1 0).bind fun y21 => if gi_is h9 y21 0 = true then (f_X0_livesLeft h9 y21).bind fun y22 => some (y22, h9) else none else none
set_option maxRecDepth 20000 in
set_option maxHeartbeats 2000000 in
theorem e_X5_year (h : gi_H) (x0 : Nat) (x1 : Int32) (x2 : Int32) (x3 : Int32) (r : (Int32 × gi_H)) (hf : f_X5_year h x0 x1 x2 x3 = some r) : gi_Ev M_X5_year 0 [some (.ref x0), some (.int x1), some (.int x2), some (.int x3)] [] h (some (.int r.1), r.2) := by
  unfold f_X5_year at hf
  refine gi_EvN 3 (pc' := 5) (lv' := [some (.ref x0), some (.int x1), some (.int x2), some (.int x3)]) (st' := [.int 9999, .int 0, .int x1]) (h' := h) rfl ?_
  obtain ⟨y1, qy1, hf⟩ := gi_bind hf
  refine gi_EvCS rfl rfl rfl rfl rfl (e_X5_isWithin h _ _ _ _ qy1) ?_
  show gi_Ev M_X5_year 8 [some (.ref x0), some (.int x1), some (.int x2), some (.int x3)] [.int y1] h _
  refine gi_Ev_eq rfl (fun c2 => ?_) (fun c2 => ?_)
  · rw [if_pos c2] at hf
    refine gi_EvN 1 (pc' := 32) (lv' := [some (.ref x0), some (.int x1), some (.int x2), some (.int x3)]) (st' := [.int (-2)]) (h' := h) rfl ?_
    cases hf
    exact gi_EvR rfl rfl
  · rw [if_neg c2] at hf
    refine gi_EvN 3 (pc' := 15) (lv' := [some (.ref x0), some (.int x1), some (.int x2), some (.int x3)]) (st' := [.int 60, .int 1, .int x2]) (h' := h) rfl ?_
    obtain ⟨y3, qy3, hf⟩ := gi_bind hf
    refine gi_EvCS rfl rfl rfl rfl rfl (e_X5_isWithin h _ _ _ _ qy3) ?_
    show gi_Ev M_X5_year 18 [some (.ref x0), some (.int x1), some (.int x2), some (.int x3)] [.int y3] h _
    refine gi_Ev_eq rfl (fun c4 => ?_) (fun c4 => ?_)
    · rw [if_pos c4] at hf
      refine gi_EvN 1 (pc' := 32) (lv' := [some (.ref x0), some (.int x1), some (.int x2), some (.int x3)]) (st' := [.int (-2)]) (h' := h) rfl ?_
      cases hf
      exact gi_EvR rfl rfl
    · rw [if_neg c4] at hf
      refine gi_EvN 3 (pc' := 24) (lv' := [some (.ref x0), some (.int x1), some (.int x2), some (.int x3)]) (st' := [.int 2, .int 0, .int x3]) (h' := h) rfl ?_
      obtain ⟨y5, qy5, hf⟩ := gi_bind hf
      refine gi_EvCS rfl rfl rfl rfl rfl (e_X5_isWithin h _ _ _ _ qy5) ?_
      show gi_Ev M_X5_year 27 [some (.ref x0), some (.int x1), some (.int x2), some (.int x3)] [.int y5] h _
      refine gi_Ev_ne rfl (fun c6 => ?_) (fun c6 => ?_)
      · rw [if_pos c6] at hf
        refine gi_EvN 1 (pc' := 32) (lv' := [some (.ref x0), some (.int x1), some (.int x2), some (.int x3)]) (st' := [.int (-2)]) (h' := h) rfl ?_
        cases hf
        exact gi_EvR rfl rfl
      · rw [if_neg c6] at hf
        refine gi_EvN 1 (pc' := 34) (lv' := [some (.ref x0), some (.int x1), some (.int x2), some (.int x3)]) (st' := [.ref x0]) (h' := h) rfl ?_
        obtain ⟨y7, qy7, hf⟩ := gi_bind hf
        refine gi_EvF rfl (gi_fR_inv qy7) ?_
        refine gi_EvN 1 (pc' := 38) (lv' := [some (.ref x0), some (.int x1), some (.int x2), some (.int x3)]) (st' := [.ref x0, .ref y7]) (h' := h) rfl ?_
        obtain ⟨y8, qy8, hf⟩ := gi_bind hf
        refine gi_EvF rfl (gi_fR_inv qy8) ?_
        refine gi_EvN 2 (pc' := 43) (lv' := [some (.ref x0), some (.int x1), some (.int x2), some (.int x3)]) (st' := [.int x2, .int x1, .ref y8, .ref y7]) (h' := h) rfl ?_
        by_cases c10 : gi_is h y7 1 = true
        rotate_left
        · rw [if_neg c10] at hf; cases hf
        rw [if_pos c10] at hf
        obtain ⟨h9, qh9, hf⟩ := gi_bind hf
        refine gi_EvCV rfl rfl c10 rfl rfl (e_X1_drawMonths h _ _ _ _ _ qh9) ?_
        show gi_Ev M_X5_year 46 [some (.ref x0), some (.int x1), some (.int x2), some (.int x3)] [] h9 _
        refine gi_EvN 1 (pc' := 47) (lv' := [some (.ref x0), some (.int x1), some (.int x2), some (.int x3)]) (st' := [.int x3]) (h' := h9) rfl ?_
        by_cases c11 : x3 = 0
        · rw [if_pos c11] at hf
          refine gi_EvLs (t := 72) (off := 25) rfl (by rw [c11]; decide) (by decide) ?_
          refine gi_EvN 1 (pc' := 73) (lv' := [some (.ref x0), some (.int x1), some (.int x2), some (.int x3)]) (st' := [.ref x0]) (h' := h9) rfl ?_
          obtain ⟨y12, qy12, hf⟩ := gi_bind hf
          refine gi_EvF rfl (gi_fR_inv qy12) ?_
          obtain ⟨y13, qy13, hf⟩ := gi_bind hf
          refine gi_EvF rfl (gi_fR_inv qy13) ?_
          by_cases c15 : gi_is h9 y13 0 = true
          rotate_left
          · rw [if_neg c15] at hf; cases hf
          rw [if_pos c15] at hf
          obtain ⟨y14, qy14, hf⟩ := gi_bind hf
          refine gi_EvCV rfl rfl c15 rfl rfl (e_X0_allCash h9 _ _ qy14) ?_
          show gi_Ev M_X5_year 82 [some (.ref x0), some (.int x1), some (.int x2), some (.int x3)] [.int y14] h9 _
          cases hf
          exact gi_EvR rfl rfl
        rw [if_neg c11] at hf
        by_cases c16 : x3 = 1
        · rw [if_pos c16] at hf
          refine gi_EvLs (t := 83) (off := 36) rfl (by rw [c16]; decide) (by decide) ?_
          refine gi_EvN 1 (pc' := 84) (lv' := [some (.ref x0), some (.int x1), some (.int x2), some (.int x3)]) (st' := [.ref x0]) (h' := h9) rfl ?_
          obtain ⟨y17, qy17, hf⟩ := gi_bind hf
          refine gi_EvF rfl (gi_fR_inv qy17) ?_
          obtain ⟨y18, qy18, hf⟩ := gi_bind hf
          refine gi_EvF rfl (gi_fR_inv qy18) ?_
          obtain ⟨y19, qy19, hf⟩ := gi_bind hf
          refine gi_EvF rfl (gi_fI_inv qy19) ?_
          cases hf
          exact gi_EvR rfl rfl
        rw [if_neg c16] at hf
        refine gi_EvLs (t := 94) (off := 47) rfl ((lv_osw c11 (by decide)).trans ((lv_osw c16 (by decide)).trans (rfl))) (by decide) ?_
        refine gi_EvN 1 (pc' := 95) (lv' := [some (.ref x0), some (.int x1), some (.int x2), some (.int x3)]) (st' := [.ref x0]) (h' := h9) rfl ?_
        obtain ⟨y20, qy20, hf⟩ := gi_bind hf
        refine gi_EvF rfl (gi_fR_inv qy20) ?_
        obtain ⟨y21, qy21, hf⟩ := gi_bind hf
        refine gi_EvF rfl (gi_fR_inv qy21) ?_
        by_cases c23 : gi_is h9 y21 0 = true
        rotate_left
        · rw [if_neg c23] at hf; cases hf
        rw [if_pos c23] at hf
        obtain ⟨y22, qy22, hf⟩ := gi_bind hf
        refine gi_EvCV rfl rfl c23 rfl rfl (e_X0_livesLeft h9 _ _ qy22) ?_
        show gi_Ev M_X5_year 104 [some (.ref x0), some (.int x1), some (.int x2), some (.int x3)] [.int y22] h9 _
        cases hf
        exact gi_EvR rfl rfl
/-! X5_image AdmiralGuinea.image(I)I -/
def f_X5_image_34 (h : gi_H) (x0 : Nat) (x1 : Int32) : Option (Int32 × gi_H) :=
  (gi_fR h x0 5 5).bind fun y1 => (gi_aq h y1 x1).bind fun y2 => match y2 with
    | none => none
    | some y4 => (gi_fR h x0 5 0).bind fun y5 => if gi_is h y4 0 = true then (f_X0_copyFrom h y4 y5).bind fun h6 => some (1, h6) else none
set_option maxRecDepth 20000 in
set_option maxHeartbeats 2000000 in
theorem e_X5_image_34 (h : gi_H) (x0 : Nat) (x1 : Int32) (r : (Int32 × gi_H)) (hf : f_X5_image_34 h x0 x1 = some r) : gi_Ev M_X5_image 34 [some (.ref x0), some (.int x1)] [] h (some (.int r.1), r.2) := by
  unfold f_X5_image_34 at hf
  refine gi_EvN 1 (pc' := 35) (lv' := [some (.ref x0), some (.int x1)]) (st' := [.ref x0]) (h' := h) rfl ?_
  obtain ⟨y1, qy1, hf⟩ := gi_bind hf
  refine gi_EvF rfl (gi_fR_inv qy1) ?_
  refine gi_EvN 1 (pc' := 39) (lv' := [some (.ref x0), some (.int x1)]) (st' := [.int x1, .ref y1]) (h' := h) rfl ?_
  obtain ⟨y2, qy2, hf⟩ := gi_bind hf
  cases y2 with
  | none =>
    cases hf
  | some y4 =>
    refine gi_EvAqS rfl qy2 ?_
    refine gi_EvN 1 (pc' := 41) (lv' := [some (.ref x0), some (.int x1)]) (st' := [.ref x0, .ref y4]) (h' := h) rfl ?_
    obtain ⟨y5, qy5, hf⟩ := gi_bind hf
    refine gi_EvF rfl (gi_fR_inv qy5) ?_
    by_cases c7 : gi_is h y4 0 = true
    rotate_left
    · rw [if_neg c7] at hf; cases hf
    rw [if_pos c7] at hf
    obtain ⟨h6, qh6, hf⟩ := gi_bind hf
    refine gi_EvCV rfl rfl c7 rfl rfl (e_X0_copyFrom h _ _ _ qh6) ?_
    show gi_Ev M_X5_image 47 [some (.ref x0), some (.int x1)] [] h6 _
    refine gi_EvN 1 (pc' := 48) (lv' := [some (.ref x0), some (.int x1)]) (st' := [.int 1]) (h' := h6) rfl ?_
    cases hf
    exact gi_EvR rfl rfl
def f_X5_image (h : gi_H) (x0 : Nat) (x1 : Int32) : Option (Int32 × gi_H) :=
  (f_X5_isWithin x1 0 1).bind fun y1 => if y1 = 0 then some ((-2), h)
  else (gi_fR h x0 5 5).bind fun y3 => (gi_aq h y3 x1).bind fun y4 => match y4 with
    | none => (gi_fR h x0 5 5).bind fun y5 => (gi_new h (.inr (0, gi_dfX0))).bind fun h6 => (f_X0_init h6 (List.length h)).bind fun h7 => (gi_pq h7 y5 x1 (List.length h) 0).bind fun h8 => f_X5_image_34 h8 x0 x1
    | some y9 => f_X5_image_34 h x0 x1
set_option maxRecDepth 20000 in
set_option maxHeartbeats 2000000 in
theorem e_X5_image (h : gi_H) (x0 : Nat) (x1 : Int32) (r : (Int32 × gi_H)) (hf : f_X5_image h x0 x1 = some r) : gi_Ev M_X5_image 0 [some (.ref x0), some (.int x1)] [] h (some (.int r.1), r.2) := by
  unfold f_X5_image at hf
  refine gi_EvN 3 (pc' := 3) (lv' := [some (.ref x0), some (.int x1)]) (st' := [.int 1, .int 0, .int x1]) (h' := h) rfl ?_
  obtain ⟨y1, qy1, hf⟩ := gi_bind hf
  refine gi_EvCS rfl rfl rfl rfl rfl (e_X5_isWithin h _ _ _ _ qy1) ?_
  show gi_Ev M_X5_image 6 [some (.ref x0), some (.int x1)] [.int y1] h _
  refine gi_Ev_ne rfl (fun c2 => ?_) (fun c2 => ?_)
  · rw [if_pos c2] at hf
    refine gi_EvN 1 (pc' := 11) (lv' := [some (.ref x0), some (.int x1)]) (st' := [.int (-2)]) (h' := h) rfl ?_
    cases hf
    exact gi_EvR rfl rfl
  · rw [if_neg c2] at hf
    refine gi_EvN 1 (pc' := 13) (lv' := [some (.ref x0), some (.int x1)]) (st' := [.ref x0]) (h' := h) rfl ?_
    obtain ⟨y3, qy3, hf⟩ := gi_bind hf
    refine gi_EvF rfl (gi_fR_inv qy3) ?_
    refine gi_EvN 1 (pc' := 17) (lv' := [some (.ref x0), some (.int x1)]) (st' := [.int x1, .ref y3]) (h' := h) rfl ?_
    obtain ⟨y4, qy4, hf⟩ := gi_bind hf
    cases y4 with
    | none =>
      refine gi_EvAqN rfl qy4 ?_
      refine gi_EvN 2 (pc' := 22) (lv' := [some (.ref x0), some (.int x1)]) (st' := [.ref x0]) (h' := h) rfl ?_
      obtain ⟨y5, qy5, hf⟩ := gi_bind hf
      refine gi_EvF rfl (gi_fR_inv qy5) ?_
      refine gi_EvN 1 (pc' := 26) (lv' := [some (.ref x0), some (.int x1)]) (st' := [.int x1, .ref y5]) (h' := h) rfl ?_
      obtain ⟨h6, qh6, hf⟩ := gi_bind hf
      refine gi_EvNew rfl qh6 ?_
      refine gi_EvN 1 (pc' := 30) (lv' := [some (.ref x0), some (.int x1)]) (st' := [.ref (List.length h), .ref (List.length h), .int x1, .ref y5]) (h' := h6) rfl ?_
      obtain ⟨h7, qh7, hf⟩ := gi_bind hf
      refine gi_EvCI rfl rfl rfl rfl rfl (e_X0_init h6 _ _ qh7) ?_
      show gi_Ev M_X5_image 33 [some (.ref x0), some (.int x1)] [.ref (List.length h), .int x1, .ref y5] h7 _
      obtain ⟨h8, qh8, hf⟩ := gi_bind hf
      refine gi_EvPq rfl qh8 ?_
      exact e_X5_image_34 h8 _ _ _ hf
    | some y9 =>
      refine gi_EvAqS rfl qy4 ?_
      refine gi_EvN 1 (pc' := 34) (lv' := [some (.ref x0), some (.int x1)]) (st' := []) (h' := h) rfl ?_
      exact e_X5_image_34 h _ _ _ hf
/-! X5_restore AdmiralGuinea.restore(I)I -/
def f_X5_restore (h : gi_H) (x0 : Nat) (x1 : Int32) : Option (Int32 × gi_H) :=
  (f_X5_isWithin x1 0 1).bind fun y1 => if y1 = 0 then some ((-2), h)
  else (gi_fR h x0 5 5).bind fun y3 => (gi_aq h y3 x1).bind fun y4 => match y4 with
    | none => some ((-3), h)
    | some y5 => (gi_fR h x0 5 0).bind fun y6 => if gi_is h y6 0 = true then (f_X0_copyFrom h y6 y5).bind fun h7 => some (1, h7) else none
set_option maxRecDepth 20000 in
set_option maxHeartbeats 2000000 in
theorem e_X5_restore (h : gi_H) (x0 : Nat) (x1 : Int32) (r : (Int32 × gi_H)) (hf : f_X5_restore h x0 x1 = some r) : gi_Ev M_X5_restore 0 [some (.ref x0), some (.int x1), none] [] h (some (.int r.1), r.2) := by
  unfold f_X5_restore at hf
  refine gi_EvN 3 (pc' := 3) (lv' := [some (.ref x0), some (.int x1), none]) (st' := [.int 1, .int 0, .int x1]) (h' := h) rfl ?_
  obtain ⟨y1, qy1, hf⟩ := gi_bind hf
  refine gi_EvCS rfl rfl rfl rfl rfl (e_X5_isWithin h _ _ _ _ qy1) ?_
  show gi_Ev M_X5_restore 6 [some (.ref x0), some (.int x1), none] [.int y1] h _
  refine gi_Ev_ne rfl (fun c2 => ?_) (fun c2 => ?_)
  · rw [if_pos c2] at hf
    refine gi_EvN 1 (pc' := 11) (lv' := [some (.ref x0), some (.int x1), none]) (st' := [.int (-2)]) (h' := h) rfl ?_
    cases hf
    exact gi_EvR rfl rfl
  · rw [if_neg c2] at hf
    refine gi_EvN 1 (pc' := 13) (lv' := [some (.ref x0), some (.int x1), none]) (st' := [.ref x0]) (h' := h) rfl ?_
    obtain ⟨y3, qy3, hf⟩ := gi_bind hf
    refine gi_EvF rfl (gi_fR_inv qy3) ?_
    refine gi_EvN 1 (pc' := 17) (lv' := [some (.ref x0), some (.int x1), none]) (st' := [.int x1, .ref y3]) (h' := h) rfl ?_
    obtain ⟨y4, qy4, hf⟩ := gi_bind hf
    cases y4 with
    | none =>
      refine gi_EvAqN rfl qy4 ?_
      refine gi_EvN 4 (pc' := 25) (lv' := [some (.ref x0), some (.int x1), some (.null)]) (st' := [.int (-3)]) (h' := h) rfl ?_
      cases hf
      exact gi_EvR rfl rfl
    | some y5 =>
      refine gi_EvAqS rfl qy4 ?_
      refine gi_EvN 4 (pc' := 27) (lv' := [some (.ref x0), some (.int x1), some (.ref y5)]) (st' := [.ref x0]) (h' := h) rfl ?_
      obtain ⟨y6, qy6, hf⟩ := gi_bind hf
      refine gi_EvF rfl (gi_fR_inv qy6) ?_
      refine gi_EvN 1 (pc' := 31) (lv' := [some (.ref x0), some (.int x1), some (.ref y5)]) (st' := [.ref y5, .ref y6]) (h' := h) rfl ?_
      by_cases c8 : gi_is h y6 0 = true
      rotate_left
      · rw [if_neg c8] at hf; cases hf
      rw [if_pos c8] at hf
      obtain ⟨h7, qh7, hf⟩ := gi_bind hf
      refine gi_EvCV rfl rfl c8 rfl rfl (e_X0_copyFrom h _ _ _ qh7) ?_
      show gi_Ev M_X5_restore 34 [some (.ref x0), some (.int x1), some (.ref y5)] [] h7 _
      refine gi_EvN 1 (pc' := 35) (lv' := [some (.ref x0), some (.int x1), some (.ref y5)]) (st' := [.int 1]) (h' := h7) rfl ?_
      cases hf
      exact gi_EvR rfl rfl
/-! X5_told AdmiralGuinea.told(I)I -/
def f_X5_told (h : gi_H) (x0 : Nat) (x1 : Int32) : Option Int32 :=
  (f_X5_isBuyer (x1 - 10)).bind fun y1 => if y1 = 0 then (f_X5_isLife (x1 - 20)).bind fun y3 => if y3 = 0 then if x1 = 0 then (gi_fR h x0 5 2).bind fun y6 => (gi_fI h y6 3 0).bind fun y7 => some (y7)
  else if x1 = 1 then (gi_fR h x0 5 0).bind fun y9 => (gi_fI h y9 0 0).bind fun y10 => some (y10)
  else if x1 = 2 then (gi_fR h x0 5 0).bind fun y12 => (gi_fI h y12 0 1).bind fun y13 => some (y13)
  else if x1 = 3 then (gi_fR h x0 5 0).bind fun y15 => (gi_fI h y15 0 5).bind fun y16 => some (y16)
  else if x1 = 4 then (gi_fR h x0 5 0).bind fun y18 => (gi_fI h y18 0 2).bind fun y19 => some (y19)
  else if x1 = 5 then (gi_fR h x0 5 0).bind fun y21 => (gi_fI h y21 0 3).bind fun y22 => some (y22)
  else if x1 = 6 then (gi_fR h x0 5 0).bind fun y24 => (gi_fI h y24 0 4).bind fun y25 => some (y25)
  else some ((-2))
  else (gi_fR h x0 5 0).bind fun y26 => (gi_fR h y26 0 6).bind fun y27 => (gi_ai h y27 0 (x1 - 20)).bind fun y28 => some (y28)
  else (gi_fR h x0 5 0).bind fun y29 => (gi_fR h y29 0 7).bind fun y30 => (gi_ai h y30 0 (x1 - 10)).bind fun y31 => some (y31)
set_option maxRecDepth 20000 in
set_option maxHeartbeats 2000000 in
theorem e_X5_told (h : gi_H) (x0 : Nat) (x1 : Int32) (r : Int32) (hf : f_X5_told h x0 x1 = some r) : gi_Ev M_X5_told 0 [some (.ref x0), some (.int x1)] [] h (some (.int r), h) := by
  unfold f_X5_told at hf
  refine gi_EvN 3 (pc' := 4) (lv' := [some (.ref x0), some (.int x1)]) (st' := [.int (x1 - 10)]) (h' := h) rfl ?_
  obtain ⟨y1, qy1, hf⟩ := gi_bind hf
  refine gi_EvCS rfl rfl rfl rfl rfl (e_X5_isBuyer h _ _ qy1) ?_
  show gi_Ev M_X5_told 7 [some (.ref x0), some (.int x1)] [.int y1] h _
  refine gi_Ev_eq rfl (fun c2 => ?_) (fun c2 => ?_)
  · rw [if_pos c2] at hf
    refine gi_EvN 3 (pc' := 27) (lv' := [some (.ref x0), some (.int x1)]) (st' := [.int (x1 - 20)]) (h' := h) rfl ?_
    obtain ⟨y3, qy3, hf⟩ := gi_bind hf
    refine gi_EvCS rfl rfl rfl rfl rfl (e_X5_isLife h _ _ qy3) ?_
    show gi_Ev M_X5_told 30 [some (.ref x0), some (.int x1)] [.int y3] h _
    refine gi_Ev_eq rfl (fun c4 => ?_) (fun c4 => ?_)
    · rw [if_pos c4] at hf
      refine gi_EvN 1 (pc' := 47) (lv' := [some (.ref x0), some (.int x1)]) (st' := [.int x1]) (h' := h) rfl ?_
      by_cases c5 : x1 = 0
      · rw [if_pos c5] at hf
        refine gi_EvTs (t := 88) rfl (gi_sw_at c5 (by decide)) ?_
        refine gi_EvN 1 (pc' := 89) (lv' := [some (.ref x0), some (.int x1)]) (st' := [.ref x0]) (h' := h) rfl ?_
        obtain ⟨y6, qy6, hf⟩ := gi_bind hf
        refine gi_EvF rfl (gi_fR_inv qy6) ?_
        obtain ⟨y7, qy7, hf⟩ := gi_bind hf
        refine gi_EvF rfl (gi_fI_inv qy7) ?_
        cases hf
        exact gi_EvR rfl rfl
      rw [if_neg c5] at hf
      by_cases c8 : x1 = 1
      · rw [if_pos c8] at hf
        refine gi_EvTs (t := 96) rfl (gi_sw_at c8 (by decide)) ?_
        refine gi_EvN 1 (pc' := 97) (lv' := [some (.ref x0), some (.int x1)]) (st' := [.ref x0]) (h' := h) rfl ?_
        obtain ⟨y9, qy9, hf⟩ := gi_bind hf
        refine gi_EvF rfl (gi_fR_inv qy9) ?_
        obtain ⟨y10, qy10, hf⟩ := gi_bind hf
        refine gi_EvF rfl (gi_fI_inv qy10) ?_
        cases hf
        exact gi_EvR rfl rfl
      rw [if_neg c8] at hf
      by_cases c11 : x1 = 2
      · rw [if_pos c11] at hf
        refine gi_EvTs (t := 104) rfl (gi_sw_at c11 (by decide)) ?_
        refine gi_EvN 1 (pc' := 105) (lv' := [some (.ref x0), some (.int x1)]) (st' := [.ref x0]) (h' := h) rfl ?_
        obtain ⟨y12, qy12, hf⟩ := gi_bind hf
        refine gi_EvF rfl (gi_fR_inv qy12) ?_
        obtain ⟨y13, qy13, hf⟩ := gi_bind hf
        refine gi_EvF rfl (gi_fI_inv qy13) ?_
        cases hf
        exact gi_EvR rfl rfl
      rw [if_neg c11] at hf
      by_cases c14 : x1 = 3
      · rw [if_pos c14] at hf
        refine gi_EvTs (t := 112) rfl (gi_sw_at c14 (by decide)) ?_
        refine gi_EvN 1 (pc' := 113) (lv' := [some (.ref x0), some (.int x1)]) (st' := [.ref x0]) (h' := h) rfl ?_
        obtain ⟨y15, qy15, hf⟩ := gi_bind hf
        refine gi_EvF rfl (gi_fR_inv qy15) ?_
        obtain ⟨y16, qy16, hf⟩ := gi_bind hf
        refine gi_EvF rfl (gi_fI_inv qy16) ?_
        cases hf
        exact gi_EvR rfl rfl
      rw [if_neg c14] at hf
      by_cases c17 : x1 = 4
      · rw [if_pos c17] at hf
        refine gi_EvTs (t := 120) rfl (gi_sw_at c17 (by decide)) ?_
        refine gi_EvN 1 (pc' := 121) (lv' := [some (.ref x0), some (.int x1)]) (st' := [.ref x0]) (h' := h) rfl ?_
        obtain ⟨y18, qy18, hf⟩ := gi_bind hf
        refine gi_EvF rfl (gi_fR_inv qy18) ?_
        obtain ⟨y19, qy19, hf⟩ := gi_bind hf
        refine gi_EvF rfl (gi_fI_inv qy19) ?_
        cases hf
        exact gi_EvR rfl rfl
      rw [if_neg c17] at hf
      by_cases c20 : x1 = 5
      · rw [if_pos c20] at hf
        refine gi_EvTs (t := 128) rfl (gi_sw_at c20 (by decide)) ?_
        refine gi_EvN 1 (pc' := 129) (lv' := [some (.ref x0), some (.int x1)]) (st' := [.ref x0]) (h' := h) rfl ?_
        obtain ⟨y21, qy21, hf⟩ := gi_bind hf
        refine gi_EvF rfl (gi_fR_inv qy21) ?_
        obtain ⟨y22, qy22, hf⟩ := gi_bind hf
        refine gi_EvF rfl (gi_fI_inv qy22) ?_
        cases hf
        exact gi_EvR rfl rfl
      rw [if_neg c20] at hf
      by_cases c23 : x1 = 6
      · rw [if_pos c23] at hf
        refine gi_EvTs (t := 136) rfl (gi_sw_at c23 (by decide)) ?_
        refine gi_EvN 1 (pc' := 137) (lv' := [some (.ref x0), some (.int x1)]) (st' := [.ref x0]) (h' := h) rfl ?_
        obtain ⟨y24, qy24, hf⟩ := gi_bind hf
        refine gi_EvF rfl (gi_fR_inv qy24) ?_
        obtain ⟨y25, qy25, hf⟩ := gi_bind hf
        refine gi_EvF rfl (gi_fI_inv qy25) ?_
        cases hf
        exact gi_EvR rfl rfl
      rw [if_neg c23] at hf
      have ic5 := lv_neT c5 (show (0 : Int32).toInt = 0 by decide)
      have ic8 := lv_neT c8 (show (1 : Int32).toInt = 1 by decide)
      have ic11 := lv_neT c11 (show (2 : Int32).toInt = 2 by decide)
      have ic14 := lv_neT c14 (show (3 : Int32).toInt = 3 by decide)
      have ic17 := lv_neT c17 (show (4 : Int32).toInt = 4 by decide)
      have ic20 := lv_neT c20 (show (5 : Int32).toInt = 5 by decide)
      have ic23 := lv_neT c23 (show (6 : Int32).toInt = 6 by decide)
      refine gi_EvTs (t := 144) rfl (gi_sw_out (by omega) (by decide)) ?_
      refine gi_EvN 1 (pc' := 146) (lv' := [some (.ref x0), some (.int x1)]) (st' := [.int (-2)]) (h' := h) rfl ?_
      cases hf
      exact gi_EvR rfl rfl
    · rw [if_neg c4] at hf
      refine gi_EvN 1 (pc' := 34) (lv' := [some (.ref x0), some (.int x1)]) (st' := [.ref x0]) (h' := h) rfl ?_
      obtain ⟨y26, qy26, hf⟩ := gi_bind hf
      refine gi_EvF rfl (gi_fR_inv qy26) ?_
      obtain ⟨y27, qy27, hf⟩ := gi_bind hf
      refine gi_EvF rfl (gi_fR_inv qy27) ?_
      refine gi_EvN 3 (pc' := 44) (lv' := [some (.ref x0), some (.int x1)]) (st' := [.int (x1 - 20), .ref y27]) (h' := h) rfl ?_
      obtain ⟨y28, qy28, hf⟩ := gi_bind hf
      refine gi_EvAi rfl qy28 ?_
      cases hf
      exact gi_EvR rfl rfl
  · rw [if_neg c2] at hf
    refine gi_EvN 1 (pc' := 11) (lv' := [some (.ref x0), some (.int x1)]) (st' := [.ref x0]) (h' := h) rfl ?_
    obtain ⟨y29, qy29, hf⟩ := gi_bind hf
    refine gi_EvF rfl (gi_fR_inv qy29) ?_
    obtain ⟨y30, qy30, hf⟩ := gi_bind hf
    refine gi_EvF rfl (gi_fR_inv qy30) ?_
    refine gi_EvN 3 (pc' := 21) (lv' := [some (.ref x0), some (.int x1)]) (st' := [.int (x1 - 10), .ref y30]) (h' := h) rfl ?_
    obtain ⟨y31, qy31, hf⟩ := gi_bind hf
    refine gi_EvAi rfl qy31 ?_
    cases hf
    exact gi_EvR rfl rfl
