/-! X0_groupOf AdmiralGuinea$Book.groupOf(II)I -/
def f_X0_groupOf_5 (h : gi_H) : Nat → Nat → Int32 → Int32 → Int32 → Int32 → Option Int32
  | 0, _, _, _, _, _ => none
  | n + 1, x0, x1, x2, x3, x4 => if 12 ≤ x4 then some (x3)
  else if gi_is h x0 0 = true then (f_X0_stands h x0 x4).bind fun y2 => if y2 = 0 then f_X0_groupOf_5 h n x0 x1 x2 x3 (x4 + 1)
  else (gi_fR h x0 0 8).bind fun y5 => (gi_ai h y5 0 x4).bind fun y6 => if y6 = x1 then (gi_fR h x0 0 9).bind fun y8 => (gi_ai h y8 0 x4).bind fun y9 => if y9 = x2 then f_X0_groupOf_5 h n x0 x1 x2 (x3 ||| (1 <<< (x4 &&& 31))) (x4 + 1)
  else f_X0_groupOf_5 h n x0 x1 x2 x3 (x4 + 1)
  else f_X0_groupOf_5 h n x0 x1 x2 x3 (x4 + 1) else none
set_option maxRecDepth 20000 in
set_option maxHeartbeats 2000000 in
theorem e_X0_groupOf_5 (h : gi_H) : ∀ (n : Nat) (x0 : Nat) (x1 : Int32) (x2 : Int32) (x3 : Int32) (x4 : Int32) (r : Int32), f_X0_groupOf_5 h n x0 x1 x2 x3 x4 = some r → gi_Ev M_X0_groupOf 5 [some (.ref x0), some (.int x1), some (.int x2), some (.int x3), some (.int x4)] [] h (some (.int r), h) := by
  intro n
  induction n with
  | zero =>
    intro x0 x1 x2 x3 x4 r hf
    unfold f_X0_groupOf_5 at hf
    cases hf
  | succ n ih =>
    intro x0 x1 x2 x3 x4 r hf
    unfold f_X0_groupOf_5 at hf
    refine gi_EvN 2 (pc' := 9) (lv' := [some (.ref x0), some (.int x1), some (.int x2), some (.int x3), some (.int x4)]) (st' := [.int 12, .int x4]) (h' := h) rfl ?_
    refine gi_Ev_ige rfl (fun c1 => ?_) (fun c1 => ?_)
    · rw [if_pos c1] at hf
      refine gi_EvN 1 (pc' := 57) (lv' := [some (.ref x0), some (.int x1), some (.int x2), some (.int x3), some (.int x4)]) (st' := [.int x3]) (h' := h) rfl ?_
      cases hf
      exact gi_EvR rfl rfl
    · rw [if_neg c1] at hf
      refine gi_EvN 2 (pc' := 15) (lv' := [some (.ref x0), some (.int x1), some (.int x2), some (.int x3), some (.int x4)]) (st' := [.int x4, .ref x0]) (h' := h) rfl ?_
      by_cases c3 : gi_is h x0 0 = true
      rotate_left
      · rw [if_neg c3] at hf; cases hf
      rw [if_pos c3] at hf
      obtain ⟨y2, qy2, hf⟩ := gi_bind hf
      refine gi_EvCV rfl rfl c3 rfl rfl (e_X0_stands h _ _ _ qy2) ?_
      show gi_Ev M_X0_groupOf 18 [some (.ref x0), some (.int x1), some (.int x2), some (.int x3), some (.int x4)] [.int y2] h _
      refine gi_Ev_eq rfl (fun c4 => ?_) (fun c4 => ?_)
      · rw [if_pos c4] at hf
        refine gi_EvN 2 (pc' := 5) (lv' := [some (.ref x0), some (.int x1), some (.int x2), some (.int x3), some (.int (x4 + 1))]) (st' := []) (h' := h) rfl ?_
        exact ih   _  _  _  _  _ _ hf
      · rw [if_neg c4] at hf
        refine gi_EvN 1 (pc' := 22) (lv' := [some (.ref x0), some (.int x1), some (.int x2), some (.int x3), some (.int x4)]) (st' := [.ref x0]) (h' := h) rfl ?_
        obtain ⟨y5, qy5, hf⟩ := gi_bind hf
        refine gi_EvF rfl (gi_fR_inv qy5) ?_
        refine gi_EvN 1 (pc' := 27) (lv' := [some (.ref x0), some (.int x1), some (.int x2), some (.int x3), some (.int x4)]) (st' := [.int x4, .ref y5]) (h' := h) rfl ?_
        obtain ⟨y6, qy6, hf⟩ := gi_bind hf
        refine gi_EvAi rfl qy6 ?_
        refine gi_EvN 1 (pc' := 29) (lv' := [some (.ref x0), some (.int x1), some (.int x2), some (.int x3), some (.int x4)]) (st' := [.int x1, .int y6]) (h' := h) rfl ?_
        refine gi_Ev_ine rfl (fun c7 => ?_) (fun c7 => ?_)
        · rw [if_pos c7] at hf
          refine gi_EvN 1 (pc' := 33) (lv' := [some (.ref x0), some (.int x1), some (.int x2), some (.int x3), some (.int x4)]) (st' := [.ref x0]) (h' := h) rfl ?_
          obtain ⟨y8, qy8, hf⟩ := gi_bind hf
          refine gi_EvF rfl (gi_fR_inv qy8) ?_
          refine gi_EvN 1 (pc' := 38) (lv' := [some (.ref x0), some (.int x1), some (.int x2), some (.int x3), some (.int x4)]) (st' := [.int x4, .ref y8]) (h' := h) rfl ?_
          obtain ⟨y9, qy9, hf⟩ := gi_bind hf
          refine gi_EvAi rfl qy9 ?_
          refine gi_EvN 1 (pc' := 40) (lv' := [some (.ref x0), some (.int x1), some (.int x2), some (.int x3), some (.int x4)]) (st' := [.int x2, .int y9]) (h' := h) rfl ?_
          refine gi_Ev_ine rfl (fun c10 => ?_) (fun c10 => ?_)
          · rw [if_pos c10] at hf
            refine gi_EvN 8 (pc' := 5) (lv' := [some (.ref x0), some (.int x1), some (.int x2), some (.int (x3 ||| (1 <<< (x4 &&& 31)))), some (.int (x4 + 1))]) (st' := []) (h' := h) rfl ?_
            exact ih   _  _  _  _  _ _ hf
          · rw [if_neg c10] at hf
            refine gi_EvN 2 (pc' := 5) (lv' := [some (.ref x0), some (.int x1), some (.int x2), some (.int x3), some (.int (x4 + 1))]) (st' := []) (h' := h) rfl ?_
            exact ih   _  _  _  _  _ _ hf
        · rw [if_neg c7] at hf
          refine gi_EvN 2 (pc' := 5) (lv' := [some (.ref x0), some (.int x1), some (.int x2), some (.int x3), some (.int (x4 + 1))]) (st' := []) (h' := h) rfl ?_
          exact ih   _  _  _  _  _ _ hf
def f_X0_groupOf (h : gi_H) (x0 : Nat) (x1 : Int32) (x2 : Int32) : Option Int32 :=
  f_X0_groupOf_5 h gi_F x0 x1 x2 0 0
set_option maxRecDepth 20000 in
set_option maxHeartbeats 2000000 in
theorem e_X0_groupOf (h : gi_H) (x0 : Nat) (x1 : Int32) (x2 : Int32) (r : Int32) (hf : f_X0_groupOf h x0 x1 x2 = some r) : gi_Ev M_X0_groupOf 0 [some (.ref x0), some (.int x1), some (.int x2), none, none] [] h (some (.int r), h) := by
  unfold f_X0_groupOf at hf
  refine gi_EvN 4 (pc' := 5) (lv' := [some (.ref x0), some (.int x1), some (.int x2), some (.int 0), some (.int 0)]) (st' := []) (h' := h) rfl ?_
  exact e_X0_groupOf_5 h gi_F _ _ _ _ _ _ hf
/-! X0_sumOf AdmiralGuinea$Book.sumOf(I)I -/
def f_X0_sumOf_4 (h : gi_H) : Nat → Nat → Int32 → Int32 → Int32 → Option Int32
  | 0, _, _, _, _ => none
  | n + 1, x0, x1, x2, x3 => if 12 ≤ x3 then some (x2)
  else if ((x1 >>> (x3 &&& 31)) &&& 1) = 0 then f_X0_sumOf_4 h n x0 x1 x2 (x3 + 1)
  else (gi_fR h x0 0 10).bind fun y3 => (gi_ai h y3 0 x3).bind fun y4 => f_X0_sumOf_4 h n x0 x1 (x2 + y4) (x3 + 1)
set_option maxRecDepth 20000 in
set_option maxHeartbeats 2000000 in
theorem e_X0_sumOf_4 (h : gi_H) : ∀ (n : Nat) (x0 : Nat) (x1 : Int32) (x2 : Int32) (x3 : Int32) (r : Int32), f_X0_sumOf_4 h n x0 x1 x2 x3 = some r → gi_Ev M_X0_sumOf 4 [some (.ref x0), some (.int x1), some (.int x2), some (.int x3)] [] h (some (.int r), h) := by
  intro n
  induction n with
  | zero =>
    intro x0 x1 x2 x3 r hf
    unfold f_X0_sumOf_4 at hf
    cases hf
  | succ n ih =>
    intro x0 x1 x2 x3 r hf
    unfold f_X0_sumOf_4 at hf
    refine gi_EvN 2 (pc' := 7) (lv' := [some (.ref x0), some (.int x1), some (.int x2), some (.int x3)]) (st' := [.int 12, .int x3]) (h' := h) rfl ?_
    refine gi_Ev_ige rfl (fun c1 => ?_) (fun c1 => ?_)
    · rw [if_pos c1] at hf
      refine gi_EvN 1 (pc' := 34) (lv' := [some (.ref x0), some (.int x1), some (.int x2), some (.int x3)]) (st' := [.int x2]) (h' := h) rfl ?_
      cases hf
      exact gi_EvR rfl rfl
    · rw [if_neg c1] at hf
      refine gi_EvN 5 (pc' := 15) (lv' := [some (.ref x0), some (.int x1), some (.int x2), some (.int x3)]) (st' := [.int ((x1 >>> (x3 &&& 31)) &&& 1)]) (h' := h) rfl ?_
      refine gi_Ev_eq rfl (fun c2 => ?_) (fun c2 => ?_)
      · rw [if_pos c2] at hf
        refine gi_EvN 2 (pc' := 4) (lv' := [some (.ref x0), some (.int x1), some (.int x2), some (.int (x3 + 1))]) (st' := []) (h' := h) rfl ?_
        exact ih   _  _  _  _ _ hf
      · rw [if_neg c2] at hf
        refine gi_EvN 2 (pc' := 20) (lv' := [some (.ref x0), some (.int x1), some (.int x2), some (.int x3)]) (st' := [.ref x0, .int x2]) (h' := h) rfl ?_
        obtain ⟨y3, qy3, hf⟩ := gi_bind hf
        refine gi_EvF rfl (gi_fR_inv qy3) ?_
        refine gi_EvN 1 (pc' := 24) (lv' := [some (.ref x0), some (.int x1), some (.int x2), some (.int x3)]) (st' := [.int x3, .ref y3, .int x2]) (h' := h) rfl ?_
        obtain ⟨y4, qy4, hf⟩ := gi_bind hf
        refine gi_EvAi rfl qy4 ?_
        refine gi_EvN 4 (pc' := 4) (lv' := [some (.ref x0), some (.int x1), some (.int (x2 + y4)), some (.int (x3 + 1))]) (st' := []) (h' := h) rfl ?_
        exact ih   _  _  _  _ _ hf
def f_X0_sumOf (h : gi_H) (x0 : Nat) (x1 : Int32) : Option Int32 :=
  f_X0_sumOf_4 h gi_F x0 x1 0 0
set_option maxRecDepth 20000 in
set_option maxHeartbeats 2000000 in
theorem e_X0_sumOf (h : gi_H) (x0 : Nat) (x1 : Int32) (r : Int32) (hf : f_X0_sumOf h x0 x1 = some r) : gi_Ev M_X0_sumOf 0 [some (.ref x0), some (.int x1), none, none] [] h (some (.int r), h) := by
  unfold f_X0_sumOf at hf
  refine gi_EvN 4 (pc' := 4) (lv' := [some (.ref x0), some (.int x1), some (.int 0), some (.int 0)]) (st' := []) (h' := h) rfl ?_
  exact e_X0_sumOf_4 h gi_F _ _ _ _ _ hf
/-! X0_gainsOf AdmiralGuinea$Book.gainsOf(II)I -/
def f_X0_gainsOf (h : gi_H) (x0 : Nat) (x1 : Int32) (x2 : Int32) : Option Int32 :=
  if gi_is h x0 0 = true then (f_X0_groupOf h x0 x1 x2).bind fun y1 => if gi_is h x0 0 = true then (f_X0_sumOf h x0 y1).bind fun y3 => some (y3) else none else none
set_option maxRecDepth 20000 in
set_option maxHeartbeats 2000000 in
theorem e_X0_gainsOf (h : gi_H) (x0 : Nat) (x1 : Int32) (x2 : Int32) (r : Int32) (hf : f_X0_gainsOf h x0 x1 x2 = some r) : gi_Ev M_X0_gainsOf 0 [some (.ref x0), some (.int x1), some (.int x2)] [] h (some (.int r), h) := by
  unfold f_X0_gainsOf at hf
  refine gi_EvN 4 (pc' := 4) (lv' := [some (.ref x0), some (.int x1), some (.int x2)]) (st' := [.int x2, .int x1, .ref x0, .ref x0]) (h' := h) rfl ?_
  by_cases c2 : gi_is h x0 0 = true
  rotate_left
  · rw [if_neg c2] at hf; cases hf
  rw [if_pos c2] at hf
  obtain ⟨y1, qy1, hf⟩ := gi_bind hf
  refine gi_EvCV rfl rfl c2 rfl rfl (e_X0_groupOf h _ _ _ _ qy1) ?_
  show gi_Ev M_X0_gainsOf 7 [some (.ref x0), some (.int x1), some (.int x2)] [.int y1, .ref x0] h _
  by_cases c4 : gi_is h x0 0 = true
  rotate_left
  · rw [if_neg c4] at hf; cases hf
  rw [if_pos c4] at hf
  obtain ⟨y3, qy3, hf⟩ := gi_bind hf
  refine gi_EvCV rfl rfl c4 rfl rfl (e_X0_sumOf h _ _ _ qy3) ?_
  show gi_Ev M_X0_gainsOf 10 [some (.ref x0), some (.int x1), some (.int x2)] [.int y3] h _
  cases hf
  exact gi_EvR rfl rfl
/-! X0_owedFor AdmiralGuinea$Book.owedFor(I)I -/
def f_X0_owedFor_4 (h : gi_H) : Nat → Nat → Int32 → Int32 → Int32 → Option Int32
  | 0, _, _, _, _ => none
  | n + 1, x0, x1, x2, x3 => if 12 ≤ x3 then some (x2)
  else if gi_is h x0 0 = true then (f_X0_stands h x0 x3).bind fun y2 => if y2 = 0 then f_X0_owedFor_4 h n x0 x1 x2 (x3 + 1)
  else (gi_fR h x0 0 9).bind fun y5 => (gi_ai h y5 0 x3).bind fun y6 => if ((x1 >>> (y6 &&& 31)) &&& 1) = 0 then f_X0_owedFor_4 h n x0 x1 x2 (x3 + 1)
  else (gi_fR h x0 0 10).bind fun y8 => (gi_ai h y8 0 x3).bind fun y9 => f_X0_owedFor_4 h n x0 x1 (x2 + y9) (x3 + 1) else none
set_option maxRecDepth 20000 in
set_option maxHeartbeats 2000000 in
theorem e_X0_owedFor_4 (h : gi_H) : ∀ (n : Nat) (x0 : Nat) (x1 : Int32) (x2 : Int32) (x3 : Int32) (r : Int32), f_X0_owedFor_4 h n x0 x1 x2 x3 = some r → gi_Ev M_X0_owedFor 4 [some (.ref x0), some (.int x1), some (.int x2), some (.int x3)] [] h (some (.int r), h) := by
  intro n
  induction n with
  | zero =>
    intro x0 x1 x2 x3 r hf
    unfold f_X0_owedFor_4 at hf
    cases hf
  | succ n ih =>
    intro x0 x1 x2 x3 r hf
    unfold f_X0_owedFor_4 at hf
    refine gi_EvN 2 (pc' := 7) (lv' := [some (.ref x0), some (.int x1), some (.int x2), some (.int x3)]) (st' := [.int 12, .int x3]) (h' := h) rfl ?_
    refine gi_Ev_ige rfl (fun c1 => ?_) (fun c1 => ?_)
    · rw [if_pos c1] at hf
      refine gi_EvN 1 (pc' := 47) (lv' := [some (.ref x0), some (.int x1), some (.int x2), some (.int x3)]) (st' := [.int x2]) (h' := h) rfl ?_
      cases hf
      exact gi_EvR rfl rfl
    · rw [if_neg c1] at hf
      refine gi_EvN 2 (pc' := 12) (lv' := [some (.ref x0), some (.int x1), some (.int x2), some (.int x3)]) (st' := [.int x3, .ref x0]) (h' := h) rfl ?_
      by_cases c3 : gi_is h x0 0 = true
      rotate_left
      · rw [if_neg c3] at hf; cases hf
      rw [if_pos c3] at hf
      obtain ⟨y2, qy2, hf⟩ := gi_bind hf
      refine gi_EvCV rfl rfl c3 rfl rfl (e_X0_stands h _ _ _ qy2) ?_
      show gi_Ev M_X0_owedFor 15 [some (.ref x0), some (.int x1), some (.int x2), some (.int x3)] [.int y2] h _
      refine gi_Ev_eq rfl (fun c4 => ?_) (fun c4 => ?_)
      · rw [if_pos c4] at hf
        refine gi_EvN 2 (pc' := 4) (lv' := [some (.ref x0), some (.int x1), some (.int x2), some (.int (x3 + 1))]) (st' := []) (h' := h) rfl ?_
        exact ih   _  _  _  _ _ hf
      · rw [if_neg c4] at hf
        refine gi_EvN 2 (pc' := 20) (lv' := [some (.ref x0), some (.int x1), some (.int x2), some (.int x3)]) (st' := [.ref x0, .int x1]) (h' := h) rfl ?_
        obtain ⟨y5, qy5, hf⟩ := gi_bind hf
        refine gi_EvF rfl (gi_fR_inv qy5) ?_
        refine gi_EvN 1 (pc' := 24) (lv' := [some (.ref x0), some (.int x1), some (.int x2), some (.int x3)]) (st' := [.int x3, .ref y5, .int x1]) (h' := h) rfl ?_
        obtain ⟨y6, qy6, hf⟩ := gi_bind hf
        refine gi_EvAi rfl qy6 ?_
        refine gi_EvN 3 (pc' := 28) (lv' := [some (.ref x0), some (.int x1), some (.int x2), some (.int x3)]) (st' := [.int ((x1 >>> (y6 &&& 31)) &&& 1)]) (h' := h) rfl ?_
        refine gi_Ev_eq rfl (fun c7 => ?_) (fun c7 => ?_)
        · rw [if_pos c7] at hf
          refine gi_EvN 2 (pc' := 4) (lv' := [some (.ref x0), some (.int x1), some (.int x2), some (.int (x3 + 1))]) (st' := []) (h' := h) rfl ?_
          exact ih   _  _  _  _ _ hf
        · rw [if_neg c7] at hf
          refine gi_EvN 2 (pc' := 33) (lv' := [some (.ref x0), some (.int x1), some (.int x2), some (.int x3)]) (st' := [.ref x0, .int x2]) (h' := h) rfl ?_
          obtain ⟨y8, qy8, hf⟩ := gi_bind hf
          refine gi_EvF rfl (gi_fR_inv qy8) ?_
          refine gi_EvN 1 (pc' := 37) (lv' := [some (.ref x0), some (.int x1), some (.int x2), some (.int x3)]) (st' := [.int x3, .ref y8, .int x2]) (h' := h) rfl ?_
          obtain ⟨y9, qy9, hf⟩ := gi_bind hf
          refine gi_EvAi rfl qy9 ?_
          refine gi_EvN 4 (pc' := 4) (lv' := [some (.ref x0), some (.int x1), some (.int (x2 + y9)), some (.int (x3 + 1))]) (st' := []) (h' := h) rfl ?_
          exact ih   _  _  _  _ _ hf
def f_X0_owedFor (h : gi_H) (x0 : Nat) (x1 : Int32) : Option Int32 :=
  f_X0_owedFor_4 h gi_F x0 x1 0 0
set_option maxRecDepth 20000 in
set_option maxHeartbeats 2000000 in
theorem e_X0_owedFor (h : gi_H) (x0 : Nat) (x1 : Int32) (r : Int32) (hf : f_X0_owedFor h x0 x1 = some r) : gi_Ev M_X0_owedFor 0 [some (.ref x0), some (.int x1), none, none] [] h (some (.int r), h) := by
  unfold f_X0_owedFor at hf
  refine gi_EvN 4 (pc' := 4) (lv' := [some (.ref x0), some (.int x1), some (.int 0), some (.int 0)]) (st' := []) (h' := h) rfl ?_
  exact e_X0_owedFor_4 h gi_F _ _ _ _ _ hf
/-! X0_fewestVoid AdmiralGuinea$Book.fewestVoid(II)I -/
def f_X0_fewestVoid_56 (h : gi_H) (k_14 : Nat → Int32 → Int32 → Int32 → Int32 → Int32 → Int32 → Option Int32) (x0 : Nat) (x1 : Int32) (x2 : Int32) (x3 : Int32) (x4 : Int32) (x5 : Int32) (x6 : Int32) : Option Int32 :=
  if ((x5 - x1) &&& x1) = 0 then some (x3)
  else k_14 x0 x1 x2 x3 x4 ((x5 - x1) &&& x1) (x6 + 1)
set_option maxRecDepth 20000 in
set_option maxHeartbeats 2000000 in
theorem e_X0_fewestVoid_56 (h : gi_H) (k_14 : Nat → Int32 → Int32 → Int32 → Int32 → Int32 → Int32 → Option Int32) (hk_14 : ∀ (x0 : Nat) (x1 : Int32) (x2 : Int32) (x3 : Int32) (x4 : Int32) (x5 : Int32) (x6 : Int32) (r : Int32), k_14 x0 x1 x2 x3 x4 x5 x6 = some r → gi_Ev M_X0_fewestVoid 14 [some (.ref x0), some (.int x1), some (.int x2), some (.int x3), some (.int x4), some (.int x5), some (.int x6)] [] h (some (.int r), h)) (x0 : Nat) (x1 : Int32) (x2 : Int32) (x3 : Int32) (x4 : Int32) (x5 : Int32) (x6 : Int32) (r : Int32) (hf : f_X0_fewestVoid_56 h k_14 x0 x1 x2 x3 x4 x5 x6 = some r) : gi_Ev M_X0_fewestVoid 56 [some (.ref x0), some (.int x1), some (.int x2), some (.int x3), some (.int x4), some (.int x5), some (.int x6)] [] h (some (.int r), h) := by
  unfold f_X0_fewestVoid_56 at hf
  refine gi_EvN 7 (pc' := 66) (lv' := [some (.ref x0), some (.int x1), some (.int x2), some (.int x3), some (.int x4), some (.int ((x5 - x1) &&& x1)), some (.int x6)]) (st' := [.int ((x5 - x1) &&& x1)]) (h' := h) rfl ?_
  refine gi_Ev_ne rfl (fun c1 => ?_) (fun c1 => ?_)
  · rw [if_pos c1] at hf
    refine gi_EvN 2 (pc' := 79) (lv' := [some (.ref x0), some (.int x1), some (.int x2), some (.int x3), some (.int x4), some (.int ((x5 - x1) &&& x1)), some (.int x6)]) (st' := [.int x3]) (h' := h) rfl ?_
    cases hf
    exact gi_EvR rfl rfl
  · rw [if_neg c1] at hf
    refine gi_EvN 2 (pc' := 14) (lv' := [some (.ref x0), some (.int x1), some (.int x2), some (.int x3), some (.int x4), some (.int ((x5 - x1) &&& x1)), some (.int (x6 + 1))]) (st' := []) (h' := h) rfl ?_
    exact hk_14   _  _  _  _  _  _  _ _ hf
def f_X0_fewestVoid_14 (h : gi_H) : Nat → Nat → Int32 → Int32 → Int32 → Int32 → Int32 → Int32 → Option Int32
  | 0, _, _, _, _, _, _, _ => none
  | n + 1, x0, x1, x2, x3, x4, x5, x6 => if 4096 ≤ x6 then some (x3)
  else (f_J6_bitCount_0f7a4 x5).bind fun y2 => if x4 ≤ y2 then f_X0_fewestVoid_56 h (f_X0_fewestVoid_14 h n) x0 x1 x2 x3 x4 x5 x6
  else if gi_is h x0 0 = true then (f_X0_sumOf h x0 (x1 &&& (x5 ^^^ (-1)))).bind fun y4 => if x2 < y4 then f_X0_fewestVoid_56 h (f_X0_fewestVoid_14 h n) x0 x1 x2 x3 x4 x5 x6
  else (f_J6_bitCount_0f7a4 x5).bind fun y7 => f_X0_fewestVoid_56 h (f_X0_fewestVoid_14 h n) x0 x1 x2 x5 y7 x5 x6 else none
set_option maxRecDepth 20000 in
set_option maxHeartbeats 2000000 in
theorem e_X0_fewestVoid_14 (h : gi_H) : ∀ (n : Nat) (x0 : Nat) (x1 : Int32) (x2 : Int32) (x3 : Int32) (x4 : Int32) (x5 : Int32) (x6 : Int32) (r : Int32), f_X0_fewestVoid_14 h n x0 x1 x2 x3 x4 x5 x6 = some r → gi_Ev M_X0_fewestVoid 14 [some (.ref x0), some (.int x1), some (.int x2), some (.int x3), some (.int x4), some (.int x5), some (.int x6)] [] h (some (.int r), h) := by
  intro n
  induction n with
  | zero =>
    intro x0 x1 x2 x3 x4 x5 x6 r hf
    unfold f_X0_fewestVoid_14 at hf
    cases hf
  | succ n ih =>
    intro x0 x1 x2 x3 x4 x5 x6 r hf
    unfold f_X0_fewestVoid_14 at hf
    refine gi_EvN 2 (pc' := 19) (lv' := [some (.ref x0), some (.int x1), some (.int x2), some (.int x3), some (.int x4), some (.int x5), some (.int x6)]) (st' := [.int 4096, .int x6]) (h' := h) rfl ?_
    refine gi_Ev_ige rfl (fun c1 => ?_) (fun c1 => ?_)
    · rw [if_pos c1] at hf
      refine gi_EvN 1 (pc' := 79) (lv' := [some (.ref x0), some (.int x1), some (.int x2), some (.int x3), some (.int x4), some (.int x5), some (.int x6)]) (st' := [.int x3]) (h' := h) rfl ?_
      cases hf
      exact gi_EvR rfl rfl
    · rw [if_neg c1] at hf
      refine gi_EvN 1 (pc' := 24) (lv' := [some (.ref x0), some (.int x1), some (.int x2), some (.int x3), some (.int x4), some (.int x5), some (.int x6)]) (st' := [.int x5]) (h' := h) rfl ?_
      obtain ⟨y2, qy2, hf⟩ := gi_bind hf
      refine gi_EvCS rfl rfl rfl rfl rfl (e_J6_bitCount_0f7a4 h _ _ qy2) ?_
      show gi_Ev M_X0_fewestVoid 27 [some (.ref x0), some (.int x1), some (.int x2), some (.int x3), some (.int x4), some (.int x5), some (.int x6)] [.int y2] h _
      refine gi_EvN 1 (pc' := 29) (lv' := [some (.ref x0), some (.int x1), some (.int x2), some (.int x3), some (.int x4), some (.int x5), some (.int x6)]) (st' := [.int x4, .int y2]) (h' := h) rfl ?_
      refine gi_Ev_ige rfl (fun c3 => ?_) (fun c3 => ?_)
      · rw [if_pos c3] at hf
        exact e_X0_fewestVoid_56 h _ ih _ _ _ _ _ _ _ _ hf
      · rw [if_neg c3] at hf
        refine gi_EvN 6 (pc' := 39) (lv' := [some (.ref x0), some (.int x1), some (.int x2), some (.int x3), some (.int x4), some (.int x5), some (.int x6)]) (st' := [.int (x1 &&& (x5 ^^^ (-1))), .ref x0]) (h' := h) rfl ?_
        by_cases c5 : gi_is h x0 0 = true
        rotate_left
        · rw [if_neg c5] at hf; cases hf
        rw [if_pos c5] at hf
        obtain ⟨y4, qy4, hf⟩ := gi_bind hf
        refine gi_EvCV rfl rfl c5 rfl rfl (e_X0_sumOf h _ _ _ qy4) ?_
        show gi_Ev M_X0_fewestVoid 42 [some (.ref x0), some (.int x1), some (.int x2), some (.int x3), some (.int x4), some (.int x5), some (.int x6)] [.int y4] h _
        refine gi_EvN 1 (pc' := 43) (lv' := [some (.ref x0), some (.int x1), some (.int x2), some (.int x3), some (.int x4), some (.int x5), some (.int x6)]) (st' := [.int x2, .int y4]) (h' := h) rfl ?_
        refine gi_Ev_igt rfl (fun c6 => ?_) (fun c6 => ?_)
        · rw [if_pos c6] at hf
          exact e_X0_fewestVoid_56 h _ ih _ _ _ _ _ _ _ _ hf
        · rw [if_neg c6] at hf
          refine gi_EvN 3 (pc' := 51) (lv' := [some (.ref x0), some (.int x1), some (.int x2), some (.int x5), some (.int x4), some (.int x5), some (.int x6)]) (st' := [.int x5]) (h' := h) rfl ?_
          obtain ⟨y7, qy7, hf⟩ := gi_bind hf
          refine gi_EvCS rfl rfl rfl rfl rfl (e_J6_bitCount_0f7a4 h _ _ qy7) ?_
          show gi_Ev M_X0_fewestVoid 54 [some (.ref x0), some (.int x1), some (.int x2), some (.int x5), some (.int x4), some (.int x5), some (.int x6)] [.int y7] h _
          refine gi_EvN 1 (pc' := 56) (lv' := [some (.ref x0), some (.int x1), some (.int x2), some (.int x5), some (.int y7), some (.int x5), some (.int x6)]) (st' := []) (h' := h) rfl ?_
          exact e_X0_fewestVoid_56 h _ ih _ _ _ _ _ _ _ _ hf
def f_X0_fewestVoid (h : gi_H) (x0 : Nat) (x1 : Int32) (x2 : Int32) : Option Int32 :=
  (f_J6_bitCount_0f7a4 x1).bind fun y1 => f_X0_fewestVoid_14 h gi_F x0 x1 x2 x1 y1 0 0
set_option maxRecDepth 20000 in
set_option maxHeartbeats 2000000 in
theorem e_X0_fewestVoid (h : gi_H) (x0 : Nat) (x1 : Int32) (x2 : Int32) (r : Int32) (hf : f_X0_fewestVoid h x0 x1 x2 = some r) : gi_Ev M_X0_fewestVoid 0 [some (.ref x0), some (.int x1), some (.int x2), none, none, none, none] [] h (some (.int r), h) := by
  unfold f_X0_fewestVoid at hf
  refine gi_EvN 3 (pc' := 3) (lv' := [some (.ref x0), some (.int x1), some (.int x2), some (.int x1), none, none, none]) (st' := [.int x1]) (h' := h) rfl ?_
  obtain ⟨y1, qy1, hf⟩ := gi_bind hf
  refine gi_EvCS rfl rfl rfl rfl rfl (e_J6_bitCount_0f7a4 h _ _ qy1) ?_
  show gi_Ev M_X0_fewestVoid 6 [some (.ref x0), some (.int x1), some (.int x2), some (.int x1), none, none, none] [.int y1] h _
  refine gi_EvN 5 (pc' := 14) (lv' := [some (.ref x0), some (.int x1), some (.int x2), some (.int x1), some (.int y1), some (.int 0), some (.int 0)]) (st' := []) (h' := h) rfl ?_
  exact e_X0_fewestVoid_14 h gi_F _ _ _ _ _ _ _ _ hf
/-! X0_endingsOf AdmiralGuinea$Book.endingsOf(II)J -/
def f_X0_endingsOf (h : gi_H) (x0 : Nat) (x1 : Int32) (x2 : Int32) : Option Int64 :=
  (f_X5_isLife x1).bind fun y1 => if y1 = 0 then some (0)
  else if gi_is h x0 0 = true then (f_X0_hasEnded h x0 x1).bind fun y3 => if y3 = 0 then (gi_fR h x0 0 6).bind fun y6 => (gi_ai h y6 0 x1).bind fun y7 => (f_X5_endings y7 x2).bind fun y8 => some (y8)
  else some (0) else none
set_option maxRecDepth 20000 in
set_option maxHeartbeats 2000000 in
theorem e_X0_endingsOf (h : gi_H) (x0 : Nat) (x1 : Int32) (x2 : Int32) (r : Int64) (hf : f_X0_endingsOf h x0 x1 x2 = some r) : gi_Ev M_X0_endingsOf 0 [some (.ref x0), some (.int x1), some (.int x2)] [] h (some (.long r), h) := by
  unfold f_X0_endingsOf at hf
  refine gi_EvN 1 (pc' := 1) (lv' := [some (.ref x0), some (.int x1), some (.int x2)]) (st' := [.int x1]) (h' := h) rfl ?_
  obtain ⟨y1, qy1, hf⟩ := gi_bind hf
  refine gi_EvCS rfl rfl rfl rfl rfl (e_X5_isLife h _ _ qy1) ?_
  show gi_Ev M_X0_endingsOf 4 [some (.ref x0), some (.int x1), some (.int x2)] [.int y1] h _
  refine gi_Ev_eq rfl (fun c2 => ?_) (fun c2 => ?_)
  · rw [if_pos c2] at hf
    refine gi_EvN 2 (pc' := 29) (lv' := [some (.ref x0), some (.int x1), some (.int x2)]) (st' := [.long 0]) (h' := h) rfl ?_
    cases hf
    exact gi_EvR rfl rfl
  · rw [if_neg c2] at hf
    refine gi_EvN 2 (pc' := 9) (lv' := [some (.ref x0), some (.int x1), some (.int x2)]) (st' := [.int x1, .ref x0]) (h' := h) rfl ?_
    by_cases c4 : gi_is h x0 0 = true
    rotate_left
    · rw [if_neg c4] at hf; cases hf
    rw [if_pos c4] at hf
    obtain ⟨y3, qy3, hf⟩ := gi_bind hf
    refine gi_EvCV rfl rfl c4 rfl rfl (e_X0_hasEnded h _ _ _ qy3) ?_
    show gi_Ev M_X0_endingsOf 12 [some (.ref x0), some (.int x1), some (.int x2)] [.int y3] h _
    refine gi_Ev_eq rfl (fun c5 => ?_) (fun c5 => ?_)
    · rw [if_pos c5] at hf
      refine gi_EvN 1 (pc' := 20) (lv' := [some (.ref x0), some (.int x1), some (.int x2)]) (st' := [.ref x0]) (h' := h) rfl ?_
      obtain ⟨y6, qy6, hf⟩ := gi_bind hf
      refine gi_EvF rfl (gi_fR_inv qy6) ?_
      refine gi_EvN 1 (pc' := 24) (lv' := [some (.ref x0), some (.int x1), some (.int x2)]) (st' := [.int x1, .ref y6]) (h' := h) rfl ?_
      obtain ⟨y7, qy7, hf⟩ := gi_bind hf
      refine gi_EvAi rfl qy7 ?_
      refine gi_EvN 1 (pc' := 26) (lv' := [some (.ref x0), some (.int x1), some (.int x2)]) (st' := [.int x2, .int y7]) (h' := h) rfl ?_
      obtain ⟨y8, qy8, hf⟩ := gi_bind hf
      refine gi_EvCS rfl rfl rfl rfl rfl (e_X5_endings h _ _ _ qy8) ?_
      show gi_Ev M_X0_endingsOf 29 [some (.ref x0), some (.int x1), some (.int x2)] [.long y8] h _
      cases hf
      exact gi_EvR rfl rfl
    · rw [if_neg c5] at hf
      refine gi_EvN 2 (pc' := 29) (lv' := [some (.ref x0), some (.int x1), some (.int x2)]) (st' := [.long 0]) (h' := h) rfl ?_
      cases hf
      exact gi_EvR rfl rfl
/-! X0_waysOf AdmiralGuinea$Book.waysOf(II)J -/
def f_X0_waysOf_46 (h : gi_H) (k_5 : Nat → Int32 → Int32 → Int64 → Int32 → Option Int64) (x0 : Nat) (x1 : Int32) (x2 : Int32) (x5 : Int32) (t0 : Int64) (t1 : Int64) : Option Int64 :=
  k_5 x0 x1 x2 (t0 * t1) (x5 + 1)
set_option maxRecDepth 20000 in
set_option maxHeartbeats 2000000 in
theorem e_X0_waysOf_46 (h : gi_H) (k_5 : Nat → Int32 → Int32 → Int64 → Int32 → Option Int64) (hk_5 : ∀ (g4 : Option Value) (g6 : Option Value) (g7 : Option Value) (x0 : Nat) (x1 : Int32) (x2 : Int32) (x3 : Int64) (x5 : Int32) (r : Int64), k_5 x0 x1 x2 x3 x5 = some r → gi_Ev M_X0_waysOf 5 [some (.ref x0), some (.int x1), some (.int x2), some (.long x3), g4, some (.int x5), g6, g7] [] h (some (.long r), h)) (g3 : Option Value) (g4 : Option Value) (g6 : Option Value) (g7 : Option Value) (x0 : Nat) (x1 : Int32) (x2 : Int32) (x5 : Int32) (t0 : Int64) (t1 : Int64) (r : Int64) (hf : f_X0_waysOf_46 h k_5 x0 x1 x2 x5 t0 t1 = some r) : gi_Ev M_X0_waysOf 46 [some (.ref x0), some (.int x1), some (.int x2), g3, g4, some (.int x5), g6, g7] [.long t1, .long t0] h (some (.long r), h) := by
  unfold f_X0_waysOf_46 at hf
  refine gi_EvN 4 (pc' := 5) (lv' := [some (.ref x0), some (.int x1), some (.int x2), some (.long (t0 * t1)), none, some (.int (x5 + 1)), g6, g7]) (st' := []) (h' := h) rfl ?_
  exact hk_5 _ _ _  _  _  _  _  _ _ hf
def f_X0_waysOf_5 (h : gi_H) : Nat → Nat → Int32 → Int32 → Int64 → Int32 → Option Int64
  | 0, _, _, _, _, _ => none
  | n + 1, x0, x1, x2, x3, x5 => if 6 ≤ x5 then some (x3)
  else if gi_is h x0 0 = true then (f_X0_endingsOf h x0 x5 x2).bind fun y2 => if ((x1 >>> (x5 &&& 31)) &&& 1) = 0 then (f_X5_power 10 x2).bind fun y5 => f_X0_waysOf_46 h (f_X0_waysOf_5 h n) x0 x1 x2 x5 x3 (y5 - y2)
  else f_X0_waysOf_46 h (f_X0_waysOf_5 h n) x0 x1 x2 x5 x3 y2 else none
set_option maxRecDepth 20000 in
set_option maxHeartbeats 2000000 in
theorem e_X0_waysOf_5 (h : gi_H) : ∀ (n : Nat) (g4 : Option Value) (g6 : Option Value) (g7 : Option Value) (x0 : Nat) (x1 : Int32) (x2 : Int32) (x3 : Int64) (x5 : Int32) (r : Int64), f_X0_waysOf_5 h n x0 x1 x2 x3 x5 = some r → gi_Ev M_X0_waysOf 5 [some (.ref x0), some (.int x1), some (.int x2), some (.long x3), g4, some (.int x5), g6, g7] [] h (some (.long r), h) := by
  intro n
  induction n with
  | zero =>
    intro g4 g6 g7 x0 x1 x2 x3 x5 r hf
    unfold f_X0_waysOf_5 at hf
    cases hf
  | succ n ih =>
    intro g4 g6 g7 x0 x1 x2 x3 x5 r hf
    unfold f_X0_waysOf_5 at hf
    refine gi_EvN 2 (pc' := 9) (lv' := [some (.ref x0), some (.int x1), some (.int x2), some (.long x3), g4, some (.int x5), g6, g7]) (st' := [.int 6, .int x5]) (h' := h) rfl ?_
    refine gi_Ev_ige rfl (fun c1 => ?_) (fun c1 => ?_)
    · rw [if_pos c1] at hf
      refine gi_EvN 1 (pc' := 55) (lv' := [some (.ref x0), some (.int x1), some (.int x2), some (.long x3), g4, some (.int x5), g6, g7]) (st' := [.long x3]) (h' := h) rfl ?_
      cases hf
      exact gi_EvR rfl rfl
    · rw [if_neg c1] at hf
      refine gi_EvN 3 (pc' := 16) (lv' := [some (.ref x0), some (.int x1), some (.int x2), some (.long x3), g4, some (.int x5), g6, g7]) (st' := [.int x2, .int x5, .ref x0]) (h' := h) rfl ?_
      by_cases c3 : gi_is h x0 0 = true
      rotate_left
      · rw [if_neg c3] at hf; cases hf
      rw [if_pos c3] at hf
      obtain ⟨y2, qy2, hf⟩ := gi_bind hf
      refine gi_EvCV rfl rfl c3 rfl rfl (e_X0_endingsOf h _ _ _ _ qy2) ?_
      show gi_Ev M_X0_waysOf 19 [some (.ref x0), some (.int x1), some (.int x2), some (.long x3), g4, some (.int x5), g6, g7] [.long y2] h _
      refine gi_EvN 7 (pc' := 28) (lv' := [some (.ref x0), some (.int x1), some (.int x2), some (.long x3), g4, some (.int x5), some (.long y2), none]) (st' := [.int ((x1 >>> (x5 &&& 31)) &&& 1), .long x3]) (h' := h) rfl ?_
      refine gi_Ev_eq rfl (fun c4 => ?_) (fun c4 => ?_)
      · rw [if_pos c4] at hf
        refine gi_EvN 2 (pc' := 40) (lv' := [some (.ref x0), some (.int x1), some (.int x2), some (.long x3), g4, some (.int x5), some (.long y2), none]) (st' := [.int x2, .long 10, .long x3]) (h' := h) rfl ?_
        obtain ⟨y5, qy5, hf⟩ := gi_bind hf
        refine gi_EvCS rfl rfl rfl rfl rfl (e_X5_power h _ _ _ qy5) ?_
        show gi_Ev M_X0_waysOf 43 [some (.ref x0), some (.int x1), some (.int x2), some (.long x3), g4, some (.int x5), some (.long y2), none] [.long y5, .long x3] h _
        refine gi_EvN 2 (pc' := 46) (lv' := [some (.ref x0), some (.int x1), some (.int x2), some (.long x3), g4, some (.int x5), some (.long y2), none]) (st' := [.long (y5 - y2), .long x3]) (h' := h) rfl ?_
        exact e_X0_waysOf_46 h _ ih _ _ _ _ _ _ _ _ _ _ _ hf
      · rw [if_neg c4] at hf
        refine gi_EvN 2 (pc' := 46) (lv' := [some (.ref x0), some (.int x1), some (.int x2), some (.long x3), g4, some (.int x5), some (.long y2), none]) (st' := [.long y2, .long x3]) (h' := h) rfl ?_
        exact e_X0_waysOf_46 h _ ih _ _ _ _ _ _ _ _ _ _ _ hf
def f_X0_waysOf (h : gi_H) (x0 : Nat) (x1 : Int32) (x2 : Int32) : Option Int64 :=
  f_X0_waysOf_5 h gi_F x0 x1 x2 1 0
set_option maxRecDepth 20000 in
set_option maxHeartbeats 2000000 in
theorem e_X0_waysOf (h : gi_H) (x0 : Nat) (x1 : Int32) (x2 : Int32) (r : Int64) (hf : f_X0_waysOf h x0 x1 x2 = some r) : gi_Ev M_X0_waysOf 0 [some (.ref x0), some (.int x1), some (.int x2), none, none, none, none, none] [] h (some (.long r), h) := by
  unfold f_X0_waysOf at hf
  refine gi_EvN 4 (pc' := 5) (lv' := [some (.ref x0), some (.int x1), some (.int x2), some (.long 1), none, some (.int 0), none, none]) (st' := []) (h' := h) rfl ?_
  exact e_X0_waysOf_5 h gi_F _ _ _ _ _ _ _ _ _ hf
/-! X0_meanOwed AdmiralGuinea$Book.meanOwed(I)J -/
def f_X0_meanOwed_5 (h : gi_H) : Nat → Nat → Int32 → Int64 → Int32 → Option Int64
  | 0, _, _, _, _ => none
  | n + 1, x0, x1, x2, x4 => if 6 ≤ x4 then some (x2)
  else if gi_is h x0 0 = true then (f_X0_owedFor h x0 (1 <<< (x4 &&& 31))).bind fun y2 => if gi_is h x0 0 = true then (f_X0_endingsOf h x0 x4 x1).bind fun y4 => f_X0_meanOwed_5 h n x0 x1 (x2 + ((Int32.toInt64 y2) * y4)) (x4 + 1) else none else none
set_option maxRecDepth 20000 in
set_option maxHeartbeats 2000000 in
theorem e_X0_meanOwed_5 (h : gi_H) : ∀ (n : Nat) (g3 : Option Value) (x0 : Nat) (x1 : Int32) (x2 : Int64) (x4 : Int32) (r : Int64), f_X0_meanOwed_5 h n x0 x1 x2 x4 = some r → gi_Ev M_X0_meanOwed 5 [some (.ref x0), some (.int x1), some (.long x2), g3, some (.int x4)] [] h (some (.long r), h) := by
  intro n
  induction n with
  | zero =>
    intro g3 x0 x1 x2 x4 r hf
    unfold f_X0_meanOwed_5 at hf
    cases hf
  | succ n ih =>
    intro g3 x0 x1 x2 x4 r hf
    unfold f_X0_meanOwed_5 at hf
    refine gi_EvN 2 (pc' := 9) (lv' := [some (.ref x0), some (.int x1), some (.long x2), g3, some (.int x4)]) (st' := [.int 6, .int x4]) (h' := h) rfl ?_
    refine gi_Ev_ige rfl (fun c1 => ?_) (fun c1 => ?_)
    · rw [if_pos c1] at hf
      refine gi_EvN 1 (pc' := 39) (lv' := [some (.ref x0), some (.int x1), some (.long x2), g3, some (.int x4)]) (st' := [.long x2]) (h' := h) rfl ?_
      cases hf
      exact gi_EvR rfl rfl
    · rw [if_neg c1] at hf
      refine gi_EvN 5 (pc' := 18) (lv' := [some (.ref x0), some (.int x1), some (.long x2), g3, some (.int x4)]) (st' := [.int (1 <<< (x4 &&& 31)), .ref x0, .long x2]) (h' := h) rfl ?_
      by_cases c3 : gi_is h x0 0 = true
      rotate_left
      · rw [if_neg c3] at hf; cases hf
      rw [if_pos c3] at hf
      obtain ⟨y2, qy2, hf⟩ := gi_bind hf
      refine gi_EvCV rfl rfl c3 rfl rfl (e_X0_owedFor h _ _ _ qy2) ?_
      show gi_Ev M_X0_meanOwed 21 [some (.ref x0), some (.int x1), some (.long x2), g3, some (.int x4)] [.int y2, .long x2] h _
      refine gi_EvN 4 (pc' := 26) (lv' := [some (.ref x0), some (.int x1), some (.long x2), g3, some (.int x4)]) (st' := [.int x1, .int x4, .ref x0, .long (Int32.toInt64 y2), .long x2]) (h' := h) rfl ?_
      by_cases c5 : gi_is h x0 0 = true
      rotate_left
      · rw [if_neg c5] at hf; cases hf
      rw [if_pos c5] at hf
      obtain ⟨y4, qy4, hf⟩ := gi_bind hf
      refine gi_EvCV rfl rfl c5 rfl rfl (e_X0_endingsOf h _ _ _ _ qy4) ?_
      show gi_Ev M_X0_meanOwed 29 [some (.ref x0), some (.int x1), some (.long x2), g3, some (.int x4)] [.long y4, .long (Int32.toInt64 y2), .long x2] h _
      refine gi_EvN 5 (pc' := 5) (lv' := [some (.ref x0), some (.int x1), some (.long (x2 + ((Int32.toInt64 y2) * y4))), none, some (.int (x4 + 1))]) (st' := []) (h' := h) rfl ?_
      exact ih _  _  _  _  _ _ hf
def f_X0_meanOwed (h : gi_H) (x0 : Nat) (x1 : Int32) : Option Int64 :=
  f_X0_meanOwed_5 h gi_F x0 x1 0 0
set_option maxRecDepth 20000 in
set_option maxHeartbeats 2000000 in
theorem e_X0_meanOwed (h : gi_H) (x0 : Nat) (x1 : Int32) (r : Int64) (hf : f_X0_meanOwed h x0 x1 = some r) : gi_Ev M_X0_meanOwed 0 [some (.ref x0), some (.int x1), none, none, none] [] h (some (.long r), h) := by
  unfold f_X0_meanOwed at hf
  refine gi_EvN 4 (pc' := 5) (lv' := [some (.ref x0), some (.int x1), some (.long 0), none, some (.int 0)]) (st' := []) (h' := h) rfl ?_
  exact e_X0_meanOwed_5 h gi_F _ _ _ _ _ _ hf
/-! X0_note AdmiralGuinea$Book.note(III)Z -/
def f_X0_note (h : gi_H) (x0 : Nat) (x1 : Int32) (x2 : Int32) (x3 : Int32) : Option (Int32 × gi_H) :=
  (gi_fI h x0 0 5).bind fun y1 => (f_X5_isWithin y1 0 7).bind fun y2 => if y2 = 0 then some (0, h)
  else (gi_fR h x0 0 12).bind fun y4 => (gi_fI h x0 0 5).bind fun y5 => (gi_pi h y4 0 y5 x1).bind fun h6 => (gi_fR h6 x0 0 13).bind fun y7 => (gi_fI h6 x0 0 5).bind fun y8 => (gi_pi h6 y7 0 y8 x2).bind fun h9 => (gi_fR h9 x0 0 14).bind fun y10 => (gi_fI h9 x0 0 5).bind fun y11 => (gi_pi h9 y10 0 y11 x3).bind fun h12 => (gi_fI h12 x0 0 5).bind fun y13 => (gi_fp h12 x0 0 5 (.int (y13 + 1))).bind fun h14 => some (1, h14)
set_option maxRecDepth 20000 in
set_option maxHeartbeats 2000000 in
theorem e_X0_note (h : gi_H) (x0 : Nat) (x1 : Int32) (x2 : Int32) (x3 : Int32) (r : (Int32 × gi_H)) (hf : f_X0_note h x0 x1 x2 x3 = some r) : gi_Ev M_X0_note 0 [some (.ref x0), some (.int x1), some (.int x2), some (.int x3)] [] h (some (.int r.1), r.2) := by
  unfold f_X0_note at hf
  refine gi_EvN 1 (pc' := 1) (lv' := [some (.ref x0), some (.int x1), some (.int x2), some (.int x3)]) (st' := [.ref x0]) (h' := h) rfl ?_
  obtain ⟨y1, qy1, hf⟩ := gi_bind hf
  refine gi_EvF rfl (gi_fI_inv qy1) ?_
  refine gi_EvN 2 (pc' := 7) (lv' := [some (.ref x0), some (.int x1), some (.int x2), some (.int x3)]) (st' := [.int 7, .int 0, .int y1]) (h' := h) rfl ?_
  obtain ⟨y2, qy2, hf⟩ := gi_bind hf
  refine gi_EvCS rfl rfl rfl rfl rfl (e_X5_isWithin h _ _ _ _ qy2) ?_
  show gi_Ev M_X0_note 10 [some (.ref x0), some (.int x1), some (.int x2), some (.int x3)] [.int y2] h _
  refine gi_Ev_ne rfl (fun c3 => ?_) (fun c3 => ?_)
  · rw [if_pos c3] at hf
    refine gi_EvN 1 (pc' := 14) (lv' := [some (.ref x0), some (.int x1), some (.int x2), some (.int x3)]) (st' := [.int 0]) (h' := h) rfl ?_
    cases hf
    exact gi_EvR rfl rfl
  · rw [if_neg c3] at hf
    refine gi_EvN 1 (pc' := 16) (lv' := [some (.ref x0), some (.int x1), some (.int x2), some (.int x3)]) (st' := [.ref x0]) (h' := h) rfl ?_
    obtain ⟨y4, qy4, hf⟩ := gi_bind hf
    refine gi_EvF rfl (gi_fR_inv qy4) ?_
    refine gi_EvN 1 (pc' := 20) (lv' := [some (.ref x0), some (.int x1), some (.int x2), some (.int x3)]) (st' := [.ref x0, .ref y4]) (h' := h) rfl ?_
    obtain ⟨y5, qy5, hf⟩ := gi_bind hf
    refine gi_EvF rfl (gi_fI_inv qy5) ?_
    refine gi_EvN 1 (pc' := 24) (lv' := [some (.ref x0), some (.int x1), some (.int x2), some (.int x3)]) (st' := [.int x1, .int y5, .ref y4]) (h' := h) rfl ?_
    obtain ⟨h6, qh6, hf⟩ := gi_bind hf
    refine gi_EvPi rfl qh6 ?_
    refine gi_EvN 1 (pc' := 26) (lv' := [some (.ref x0), some (.int x1), some (.int x2), some (.int x3)]) (st' := [.ref x0]) (h' := h6) rfl ?_
    obtain ⟨y7, qy7, hf⟩ := gi_bind hf
    refine gi_EvF rfl (gi_fR_inv qy7) ?_
    refine gi_EvN 1 (pc' := 30) (lv' := [some (.ref x0), some (.int x1), some (.int x2), some (.int x3)]) (st' := [.ref x0, .ref y7]) (h' := h6) rfl ?_
    obtain ⟨y8, qy8, hf⟩ := gi_bind hf
    refine gi_EvF rfl (gi_fI_inv qy8) ?_
    refine gi_EvN 1 (pc' := 34) (lv' := [some (.ref x0), some (.int x1), some (.int x2), some (.int x3)]) (st' := [.int x2, .int y8, .ref y7]) (h' := h6) rfl ?_
    obtain ⟨h9, qh9, hf⟩ := gi_bind hf
    refine gi_EvPi rfl qh9 ?_
    refine gi_EvN 1 (pc' := 36) (lv' := [some (.ref x0), some (.int x1), some (.int x2), some (.int x3)]) (st' := [.ref x0]) (h' := h9) rfl ?_
    obtain ⟨y10, qy10, hf⟩ := gi_bind hf
    refine gi_EvF rfl (gi_fR_inv qy10) ?_
    refine gi_EvN 1 (pc' := 40) (lv' := [some (.ref x0), some (.int x1), some (.int x2), some (.int x3)]) (st' := [.ref x0, .ref y10]) (h' := h9) rfl ?_
    obtain ⟨y11, qy11, hf⟩ := gi_bind hf
    refine gi_EvF rfl (gi_fI_inv qy11) ?_
    refine gi_EvN 1 (pc' := 44) (lv' := [some (.ref x0), some (.int x1), some (.int x2), some (.int x3)]) (st' := [.int x3, .int y11, .ref y10]) (h' := h9) rfl ?_
    obtain ⟨h12, qh12, hf⟩ := gi_bind hf
    refine gi_EvPi rfl qh12 ?_
    refine gi_EvN 2 (pc' := 47) (lv' := [some (.ref x0), some (.int x1), some (.int x2), some (.int x3)]) (st' := [.ref x0, .ref x0]) (h' := h12) rfl ?_
    obtain ⟨y13, qy13, hf⟩ := gi_bind hf
    refine gi_EvF rfl (gi_fI_inv qy13) ?_
    refine gi_EvN 2 (pc' := 52) (lv' := [some (.ref x0), some (.int x1), some (.int x2), some (.int x3)]) (st' := [.int (y13 + 1), .ref x0]) (h' := h12) rfl ?_
    obtain ⟨h14, qh14, hf⟩ := gi_bind hf
    refine gi_EvFp rfl rfl qh14 ?_
    refine gi_EvN 1 (pc' := 56) (lv' := [some (.ref x0), some (.int x1), some (.int x2), some (.int x3)]) (st' := [.int 1]) (h' := h14) rfl ?_
    cases hf
    exact gi_EvR rfl rfl
/-! X1_init AdmiralGuinea$Course.<init>()V -/
def f_X1_init (h : gi_H) (x0 : Nat) : Option gi_H :=
  (gi_new h (.inr (0, gi_dfX0))).bind fun h1 => (f_X0_init h1 (List.length h)).bind fun h2 => (gi_fp h2 x0 1 0 (.ref (List.length h))).bind fun h3 => some h3
set_option maxRecDepth 20000 in
set_option maxHeartbeats 2000000 in
theorem e_X1_init (h : gi_H) (x0 : Nat) (r : gi_H) (hf : f_X1_init h x0 = some r) : gi_Ev M_X1_init 0 [some (.ref x0)] [] h (none, r) := by
  unfold f_X1_init at hf
  refine gi_EvN 3 (pc' := 5) (lv' := [some (.ref x0)]) (st' := [.ref x0]) (h' := h) rfl ?_
  obtain ⟨h1, qh1, hf⟩ := gi_bind hf
  refine gi_EvNew rfl qh1 ?_
  refine gi_EvN 1 (pc' := 9) (lv' := [some (.ref x0)]) (st' := [.ref (List.length h), .ref (List.length h), .ref x0]) (h' := h1) rfl ?_
  obtain ⟨h2, qh2, hf⟩ := gi_bind hf
  refine gi_EvCI rfl rfl rfl rfl rfl (e_X0_init h1 _ _ qh2) ?_
  show gi_Ev M_X1_init 12 [some (.ref x0)] [.ref (List.length h), .ref x0] h2 _
  obtain ⟨h3, qh3, hf⟩ := gi_bind hf
  refine gi_EvFp rfl rfl qh3 ?_
  cases hf
  exact gi_EvR rfl rfl
/-! X1_tryFate AdmiralGuinea$Course.tryFate(II)I -/
def f_X1_tryFate (h : gi_H) (x0 : Nat) (x1 : Int32) (x2 : Int32) : Option (Int32 × gi_H) :=
  if x2 = 43 then (gi_fR h x0 1 0).bind fun y2 => if gi_is h y2 0 = true then (f_X0_walk h y2 x1).bind fun y3 => some (y3.1, y3.2) else none
  else if x2 = 45 then (gi_fR h x0 1 0).bind fun y6 => if gi_is h y6 0 = true then (f_X0_rumour h y6 x1).bind fun y7 => some (y7.1, y7.2) else none
  else (gi_fR h x0 1 0).bind fun y9 => if gi_is h y9 0 = true then (f_X0_owedFor h y9 (1 <<< (x1 &&& 31))).bind fun y10 => (gi_fR h x0 1 0).bind fun y12 => (gi_fI h y12 0 1).bind fun y13 => (gi_fR h x0 1 0).bind fun y14 => if gi_is h y14 0 = true then (f_X0_endLife h y14 x1).bind fun y15 => (gi_fR y15.2 x0 1 0).bind fun y17 => (gi_fI y15.2 y17 0 1).bind fun y18 => (gi_fI y15.2 x0 1 4).bind fun y19 => (gi_fp y15.2 x0 1 4 (.int (y19 + (y13 - y18)))).bind fun h20 => if y15.1 = 0 then if y10 ≤ (y13 - y18) then some (y15.1, h20)
  else (gi_fI h20 x0 1 5).bind fun y23 => if y23 = (-6) then (gi_fI h20 x0 1 1).bind fun y25 => (gi_fp h20 x0 1 5 (.int y25)).bind fun h26 => some (y15.1, h26)
  else some (y15.1, h20)
  else some (y15.1, h20) else none else none
set_option maxRecDepth 20000 in
set_option maxHeartbeats 2000000 in
theorem e_X1_tryFate (h : gi_H) (x0 : Nat) (x1 : Int32) (x2 : Int32) (r : (Int32 × gi_H)) (hf : f_X1_tryFate h x0 x1 x2 = some r) : gi_Ev M_X1_tryFate 0 [some (.ref x0), some (.int x1), some (.int x2), none, none, none, none] [] h (some (.int r.1), r.2) := by
  unfold f_X1_tryFate at hf
  refine gi_EvN 2 (pc' := 3) (lv' := [some (.ref x0), some (.int x1), some (.int x2), none, none, none, none]) (st' := [.int 43, .int x2]) (h' := h) rfl ?_
  refine gi_Ev_ine rfl (fun c1 => ?_) (fun c1 => ?_)
  · rw [if_pos c1] at hf
    refine gi_EvN 1 (pc' := 7) (lv' := [some (.ref x0), some (.int x1), some (.int x2), none, none, none, none]) (st' := [.ref x0]) (h' := h) rfl ?_
    obtain ⟨y2, qy2, hf⟩ := gi_bind hf
    refine gi_EvF rfl (gi_fR_inv qy2) ?_
    refine gi_EvN 1 (pc' := 11) (lv' := [some (.ref x0), some (.int x1), some (.int x2), none, none, none, none]) (st' := [.int x1, .ref y2]) (h' := h) rfl ?_
    by_cases c4 : gi_is h y2 0 = true
    rotate_left
    · rw [if_neg c4] at hf; cases hf
    rw [if_pos c4] at hf
    obtain ⟨y3, qy3, hf⟩ := gi_bind hf
    refine gi_EvCV rfl rfl c4 rfl rfl (e_X0_walk h _ _ _ qy3) ?_
    show gi_Ev M_X1_tryFate 14 [some (.ref x0), some (.int x1), some (.int x2), none, none, none, none] [.int y3.1] y3.2 _
    cases hf
    exact gi_EvR rfl rfl
  · rw [if_neg c1] at hf
    refine gi_EvN 2 (pc' := 18) (lv' := [some (.ref x0), some (.int x1), some (.int x2), none, none, none, none]) (st' := [.int 45, .int x2]) (h' := h) rfl ?_
    refine gi_Ev_ine rfl (fun c5 => ?_) (fun c5 => ?_)
    · rw [if_pos c5] at hf
      refine gi_EvN 1 (pc' := 22) (lv' := [some (.ref x0), some (.int x1), some (.int x2), none, none, none, none]) (st' := [.ref x0]) (h' := h) rfl ?_
      obtain ⟨y6, qy6, hf⟩ := gi_bind hf
      refine gi_EvF rfl (gi_fR_inv qy6) ?_
      refine gi_EvN 1 (pc' := 26) (lv' := [some (.ref x0), some (.int x1), some (.int x2), none, none, none, none]) (st' := [.int x1, .ref y6]) (h' := h) rfl ?_
      by_cases c8 : gi_is h y6 0 = true
      rotate_left
      · rw [if_neg c8] at hf; cases hf
      rw [if_pos c8] at hf
      obtain ⟨y7, qy7, hf⟩ := gi_bind hf
      refine gi_EvCV rfl rfl c8 rfl rfl (e_X0_rumour h _ _ _ qy7) ?_
      show gi_Ev M_X1_tryFate 29 [some (.ref x0), some (.int x1), some (.int x2), none, none, none, none] [.int y7.1] y7.2 _
      cases hf
      exact gi_EvR rfl rfl
    · rw [if_neg c5] at hf
      refine gi_EvN 1 (pc' := 31) (lv' := [some (.ref x0), some (.int x1), some (.int x2), none, none, none, none]) (st' := [.ref x0]) (h' := h) rfl ?_
      obtain ⟨y9, qy9, hf⟩ := gi_bind hf
      refine gi_EvF rfl (gi_fR_inv qy9) ?_
      refine gi_EvN 3 (pc' := 37) (lv' := [some (.ref x0), some (.int x1), some (.int x2), none, none, none, none]) (st' := [.int (1 <<< (x1 &&& 31)), .ref y9]) (h' := h) rfl ?_
      by_cases c11 : gi_is h y9 0 = true
      rotate_left
      · rw [if_neg c11] at hf; cases hf
      rw [if_pos c11] at hf
      obtain ⟨y10, qy10, hf⟩ := gi_bind hf
      refine gi_EvCV rfl rfl c11 rfl rfl (e_X0_owedFor h _ _ _ qy10) ?_
      show gi_Ev M_X1_tryFate 40 [some (.ref x0), some (.int x1), some (.int x2), none, none, none, none] [.int y10] h _
      refine gi_EvN 2 (pc' := 42) (lv' := [some (.ref x0), some (.int x1), some (.int x2), some (.int y10), none, none, none]) (st' := [.ref x0]) (h' := h) rfl ?_
      obtain ⟨y12, qy12, hf⟩ := gi_bind hf
      refine gi_EvF rfl (gi_fR_inv qy12) ?_
      obtain ⟨y13, qy13, hf⟩ := gi_bind hf
      refine gi_EvF rfl (gi_fI_inv qy13) ?_
      refine gi_EvN 2 (pc' := 51) (lv' := [some (.ref x0), some (.int x1), some (.int x2), some (.int y10), some (.int y13), none, none]) (st' := [.ref x0]) (h' := h) rfl ?_
      obtain ⟨y14, qy14, hf⟩ := gi_bind hf
      refine gi_EvF rfl (gi_fR_inv qy14) ?_
      refine gi_EvN 1 (pc' := 55) (lv' := [some (.ref x0), some (.int x1), some (.int x2), some (.int y10), some (.int y13), none, none]) (st' := [.int x1, .ref y14]) (h' := h) rfl ?_
      by_cases c16 : gi_is h y14 0 = true
      rotate_left
      · rw [if_neg c16] at hf; cases hf
      rw [if_pos c16] at hf
      obtain ⟨y15, qy15, hf⟩ := gi_bind hf
      refine gi_EvCV rfl rfl c16 rfl rfl (e_X0_endLife h _ _ _ qy15) ?_
      show gi_Ev M_X1_tryFate 58 [some (.ref x0), some (.int x1), some (.int x2), some (.int y10), some (.int y13), none, none] [.int y15.1] y15.2 _
      refine gi_EvN 3 (pc' := 63) (lv' := [some (.ref x0), some (.int x1), some (.int x2), some (.int y10), some (.int y13), some (.int y15.1), none]) (st' := [.ref x0, .int y13]) (h' := y15.2) rfl ?_
      obtain ⟨y17, qy17, hf⟩ := gi_bind hf
      refine gi_EvF rfl (gi_fR_inv qy17) ?_
      obtain ⟨y18, qy18, hf⟩ := gi_bind hf
      refine gi_EvF rfl (gi_fI_inv qy18) ?_
      refine gi_EvN 4 (pc' := 74) (lv' := [some (.ref x0), some (.int x1), some (.int x2), some (.int y10), some (.int y13), some (.int y15.1), some (.int (y13 - y18))]) (st' := [.ref x0, .ref x0]) (h' := y15.2) rfl ?_
      obtain ⟨y19, qy19, hf⟩ := gi_bind hf
      refine gi_EvF rfl (gi_fI_inv qy19) ?_
      refine gi_EvN 2 (pc' := 80) (lv' := [some (.ref x0), some (.int x1), some (.int x2), some (.int y10), some (.int y13), some (.int y15.1), some (.int (y13 - y18))]) (st' := [.int (y19 + (y13 - y18)), .ref x0]) (h' := y15.2) rfl ?_
      obtain ⟨h20, qh20, hf⟩ := gi_bind hf
      refine gi_EvFp rfl rfl qh20 ?_
      refine gi_EvN 1 (pc' := 85) (lv' := [some (.ref x0), some (.int x1), some (.int x2), some (.int y10), some (.int y13), some (.int y15.1), some (.int (y13 - y18))]) (st' := [.int y15.1]) (h' := h20) rfl ?_
      refine gi_Ev_ne rfl (fun c21 => ?_) (fun c21 => ?_)
      · rw [if_pos c21] at hf
        refine gi_EvN 2 (pc' := 91) (lv' := [some (.ref x0), some (.int x1), some (.int x2), some (.int y10), some (.int y13), some (.int y15.1), some (.int (y13 - y18))]) (st' := [.int y10, .int (y13 - y18)]) (h' := h20) rfl ?_
        refine gi_Ev_ige rfl (fun c22 => ?_) (fun c22 => ?_)
        · rw [if_pos c22] at hf
          refine gi_EvN 1 (pc' := 113) (lv' := [some (.ref x0), some (.int x1), some (.int x2), some (.int y10), some (.int y13), some (.int y15.1), some (.int (y13 - y18))]) (st' := [.int y15.1]) (h' := h20) rfl ?_
          cases hf
          exact gi_EvR rfl rfl
        · rw [if_neg c22] at hf
          refine gi_EvN 1 (pc' := 95) (lv' := [some (.ref x0), some (.int x1), some (.int x2), some (.int y10), some (.int y13), some (.int y15.1), some (.int (y13 - y18))]) (st' := [.ref x0]) (h' := h20) rfl ?_
          obtain ⟨y23, qy23, hf⟩ := gi_bind hf
          refine gi_EvF rfl (gi_fI_inv qy23) ?_
          refine gi_EvN 1 (pc' := 100) (lv' := [some (.ref x0), some (.int x1), some (.int x2), some (.int y10), some (.int y13), some (.int y15.1), some (.int (y13 - y18))]) (st' := [.int (-6), .int y23]) (h' := h20) rfl ?_
          refine gi_Ev_ine rfl (fun c24 => ?_) (fun c24 => ?_)
          · rw [if_pos c24] at hf
            refine gi_EvN 2 (pc' := 105) (lv' := [some (.ref x0), some (.int x1), some (.int x2), some (.int y10), some (.int y13), some (.int y15.1), some (.int (y13 - y18))]) (st' := [.ref x0, .ref x0]) (h' := h20) rfl ?_
            obtain ⟨y25, qy25, hf⟩ := gi_bind hf
            refine gi_EvF rfl (gi_fI_inv qy25) ?_
            obtain ⟨h26, qh26, hf⟩ := gi_bind hf
            refine gi_EvFp rfl rfl qh26 ?_
            refine gi_EvN 1 (pc' := 113) (lv' := [some (.ref x0), some (.int x1), some (.int x2), some (.int y10), some (.int y13), some (.int y15.1), some (.int (y13 - y18))]) (st' := [.int y15.1]) (h' := h26) rfl ?_
            cases hf
            exact gi_EvR rfl rfl
          · rw [if_neg c24] at hf
            refine gi_EvN 1 (pc' := 113) (lv' := [some (.ref x0), some (.int x1), some (.int x2), some (.int y10), some (.int y13), some (.int y15.1), some (.int (y13 - y18))]) (st' := [.int y15.1]) (h' := h20) rfl ?_
            cases hf
            exact gi_EvR rfl rfl
      · rw [if_neg c21] at hf
        refine gi_EvN 1 (pc' := 113) (lv' := [some (.ref x0), some (.int x1), some (.int x2), some (.int y10), some (.int y13), some (.int y15.1), some (.int (y13 - y18))]) (st' := [.int y15.1]) (h' := h20) rfl ?_
        cases hf
        exact gi_EvR rfl rfl
/-! X3_buyerOf AdmiralGuinea$Pad.buyerOf(I)I -/
def f_X3_buyerOf (x0 : Int32) : Option Int32 :=
  some ((x0 - 97))
set_option maxRecDepth 20000 in
set_option maxHeartbeats 2000000 in
theorem e_X3_buyerOf (h : gi_H) (x0 : Int32) (r : Int32) (hf : f_X3_buyerOf x0 = some r) : gi_Ev M_X3_buyerOf 0 [some (.int x0)] [] h (some (.int r), h) := by
  unfold f_X3_buyerOf at hf
  refine gi_EvN 3 (pc' := 4) (lv' := [some (.int x0)]) (st' := [.int (x0 - 97)]) (h' := h) rfl ?_
  cases hf
  exact gi_EvR rfl rfl
/-! X3_lifeOf AdmiralGuinea$Pad.lifeOf(I)I -/
def f_X3_lifeOf (x0 : Int32) : Option Int32 :=
  some ((x0 - 65))
set_option maxRecDepth 20000 in
set_option maxHeartbeats 2000000 in
theorem e_X3_lifeOf (h : gi_H) (x0 : Int32) (r : Int32) (hf : f_X3_lifeOf x0 = some r) : gi_Ev M_X3_lifeOf 0 [some (.int x0)] [] h (some (.int r), h) := by
  unfold f_X3_lifeOf at hf
  refine gi_EvN 3 (pc' := 4) (lv' := [some (.int x0)]) (st' := [.int (x0 - 65)]) (h' := h) rfl ?_
  cases hf
  exact gi_EvR rfl rfl
/-! X3_signAt AdmiralGuinea$Pad.signAt(I)I -/
def f_X3_signAt (h : gi_H) (x0 : Nat) (x1 : Int32) : Option Int32 :=
  (f_X5_isWithin x1 0 59).bind fun y1 => if y1 = 0 then some (0)
  else (gi_fR h x0 3 1).bind fun y3 => (gi_ai h y3 0 x1).bind fun y4 => some (y4)
set_option maxRecDepth 20000 in
set_option maxHeartbeats 2000000 in
theorem e_X3_signAt (h : gi_H) (x0 : Nat) (x1 : Int32) (r : Int32) (hf : f_X3_signAt h x0 x1 = some r) : gi_Ev M_X3_signAt 0 [some (.ref x0), some (.int x1)] [] h (some (.int r), h) := by
  unfold f_X3_signAt at hf
  refine gi_EvN 3 (pc' := 4) (lv' := [some (.ref x0), some (.int x1)]) (st' := [.int 59, .int 0, .int x1]) (h' := h) rfl ?_
  obtain ⟨y1, qy1, hf⟩ := gi_bind hf
  refine gi_EvCS rfl rfl rfl rfl rfl (e_X5_isWithin h _ _ _ _ qy1) ?_
  show gi_Ev M_X3_signAt 7 [some (.ref x0), some (.int x1)] [.int y1] h _
  refine gi_Ev_eq rfl (fun c2 => ?_) (fun c2 => ?_)
  · rw [if_pos c2] at hf
    refine gi_EvN 1 (pc' := 20) (lv' := [some (.ref x0), some (.int x1)]) (st' := [.int 0]) (h' := h) rfl ?_
    cases hf
    exact gi_EvR rfl rfl
  · rw [if_neg c2] at hf
    refine gi_EvN 1 (pc' := 11) (lv' := [some (.ref x0), some (.int x1)]) (st' := [.ref x0]) (h' := h) rfl ?_
    obtain ⟨y3, qy3, hf⟩ := gi_bind hf
    refine gi_EvF rfl (gi_fR_inv qy3) ?_
    refine gi_EvN 1 (pc' := 15) (lv' := [some (.ref x0), some (.int x1)]) (st' := [.int x1, .ref y3]) (h' := h) rfl ?_
    obtain ⟨y4, qy4, hf⟩ := gi_bind hf
    refine gi_EvAi rfl qy4 ?_
    refine gi_EvN 1 (pc' := 20) (lv' := [some (.ref x0), some (.int x1)]) (st' := [.int y4]) (h' := h) rfl ?_
    cases hf
    exact gi_EvR rfl rfl
/-! X1_tryAct AdmiralGuinea$Course.tryAct(LAdmiralGuinea$Pad;I)I -/
def f_X1_tryAct (h : gi_H) (x0 : Nat) (x1 : Nat) (x2 : Int32) : Option (Int32 × gi_H) :=
  if gi_is h x1 3 = true then (f_X3_signAt h x1 x2).bind fun y1 => if gi_is h x1 3 = true then (f_X3_signAt h x1 (x2 + 1)).bind fun y3 => if gi_is h x1 3 = true then (f_X3_signAt h x1 (x2 + 2)).bind fun y5 => if y1 = 46 then (gi_fR h x0 1 0).bind fun y8 => if gi_is h y8 0 = true then (f_X0_turnMonth h y8).bind fun y9 => some (y9.1, y9.2) else none
  else (f_X3_lifeOf y1).bind fun y11 => (f_X5_isLife y11).bind fun y12 => if y12 = 0 then (f_X3_buyerOf y1).bind fun y14 => (f_X3_lifeOf y3).bind fun y15 => (f_X5_isLife y15).bind fun y16 => if y16 = 0 then (gi_fR h x0 1 0).bind fun y18 => (f_X3_buyerOf y5).bind fun y19 => if gi_is h y18 0 = true then (f_X0_passOn h y18 y14 (y3 - 48) y19).bind fun y20 => some (y20.1, y20.2) else none
  else (gi_fR h x0 1 0).bind fun y22 => (f_X3_lifeOf y3).bind fun y23 => if gi_is h x1 3 = true then (f_X3_signAt h x1 (x2 + 3)).bind fun y24 => if gi_is h y22 0 = true then (f_X0_buyPolicy h y22 y14 y23 (y5 - 48) (y24 - 48)).bind fun y26 => some (y26.1, y26.2) else none else none
  else (f_X3_lifeOf y1).bind fun y28 => if gi_is h x0 1 = true then (f_X1_tryFate h x0 y28 y3).bind fun y29 => some (y29.1, y29.2) else none else none else none else none
set_option maxRecDepth 20000 in
set_option maxHeartbeats 2000000 in
theorem e_X1_tryAct (h : gi_H) (x0 : Nat) (x1 : Nat) (x2 : Int32) (r : (Int32 × gi_H)) (hf : f_X1_tryAct h x0 x1 x2 = some r) : gi_Ev M_X1_tryAct 0 [some (.ref x0), some (.ref x1), some (.int x2), none, none, none, none] [] h (some (.int r.1), r.2) := by
  unfold f_X1_tryAct at hf
  refine gi_EvN 2 (pc' := 2) (lv' := [some (.ref x0), some (.ref x1), some (.int x2), none, none, none, none]) (st' := [.int x2, .ref x1]) (h' := h) rfl ?_
  by_cases c2 : gi_is h x1 3 = true
  rotate_left
  · rw [if_neg c2] at hf; cases hf
  rw [if_pos c2] at hf
  obtain ⟨y1, qy1, hf⟩ := gi_bind hf
  refine gi_EvCV rfl rfl c2 rfl rfl (e_X3_signAt h _ _ _ qy1) ?_
  show gi_Ev M_X1_tryAct 5 [some (.ref x0), some (.ref x1), some (.int x2), none, none, none, none] [.int y1] h _
  refine gi_EvN 5 (pc' := 10) (lv' := [some (.ref x0), some (.ref x1), some (.int x2), some (.int y1), none, none, none]) (st' := [.int (x2 + 1), .ref x1]) (h' := h) rfl ?_
  by_cases c4 : gi_is h x1 3 = true
  rotate_left
  · rw [if_neg c4] at hf; cases hf
  rw [if_pos c4] at hf
  obtain ⟨y3, qy3, hf⟩ := gi_bind hf
  refine gi_EvCV rfl rfl c4 rfl rfl (e_X3_signAt h _ _ _ qy3) ?_
  show gi_Ev M_X1_tryAct 13 [some (.ref x0), some (.ref x1), some (.int x2), some (.int y1), none, none, none] [.int y3] h _
  refine gi_EvN 5 (pc' := 19) (lv' := [some (.ref x0), some (.ref x1), some (.int x2), some (.int y1), some (.int y3), none, none]) (st' := [.int (x2 + 2), .ref x1]) (h' := h) rfl ?_
  by_cases c6 : gi_is h x1 3 = true
  rotate_left
  · rw [if_neg c6] at hf; cases hf
  rw [if_pos c6] at hf
  obtain ⟨y5, qy5, hf⟩ := gi_bind hf
  refine gi_EvCV rfl rfl c6 rfl rfl (e_X3_signAt h _ _ _ qy5) ?_
  show gi_Ev M_X1_tryAct 22 [some (.ref x0), some (.ref x1), some (.int x2), some (.int y1), some (.int y3), none, none] [.int y5] h _
  refine gi_EvN 3 (pc' := 27) (lv' := [some (.ref x0), some (.ref x1), some (.int x2), some (.int y1), some (.int y3), some (.int y5), none]) (st' := [.int 46, .int y1]) (h' := h) rfl ?_
  refine gi_Ev_ine rfl (fun c7 => ?_) (fun c7 => ?_)
  · rw [if_pos c7] at hf
    refine gi_EvN 1 (pc' := 31) (lv' := [some (.ref x0), some (.ref x1), some (.int x2), some (.int y1), some (.int y3), some (.int y5), none]) (st' := [.ref x0]) (h' := h) rfl ?_
    obtain ⟨y8, qy8, hf⟩ := gi_bind hf
    refine gi_EvF rfl (gi_fR_inv qy8) ?_
    by_cases c10 : gi_is h y8 0 = true
    rotate_left
    · rw [if_neg c10] at hf; cases hf
    rw [if_pos c10] at hf
    obtain ⟨y9, qy9, hf⟩ := gi_bind hf
    refine gi_EvCV rfl rfl c10 rfl rfl (e_X0_turnMonth h _ _ qy9) ?_
    show gi_Ev M_X1_tryAct 37 [some (.ref x0), some (.ref x1), some (.int x2), some (.int y1), some (.int y3), some (.int y5), none] [.int y9.1] y9.2 _
    cases hf
    exact gi_EvR rfl rfl
  · rw [if_neg c7] at hf
    refine gi_EvN 1 (pc' := 39) (lv' := [some (.ref x0), some (.ref x1), some (.int x2), some (.int y1), some (.int y3), some (.int y5), none]) (st' := [.int y1]) (h' := h) rfl ?_
    obtain ⟨y11, qy11, hf⟩ := gi_bind hf
    refine gi_EvCS rfl rfl rfl rfl rfl (e_X3_lifeOf h _ _ qy11) ?_
    show gi_Ev M_X1_tryAct 42 [some (.ref x0), some (.ref x1), some (.int x2), some (.int y1), some (.int y3), some (.int y5), none] [.int y11] h _
    obtain ⟨y12, qy12, hf⟩ := gi_bind hf
    refine gi_EvCS rfl rfl rfl rfl rfl (e_X5_isLife h _ _ qy12) ?_
    show gi_Ev M_X1_tryAct 45 [some (.ref x0), some (.ref x1), some (.int x2), some (.int y1), some (.int y3), some (.int y5), none] [.int y12] h _
    refine gi_Ev_eq rfl (fun c13 => ?_) (fun c13 => ?_)
    · rw [if_pos c13] at hf
      refine gi_EvN 1 (pc' := 60) (lv' := [some (.ref x0), some (.ref x1), some (.int x2), some (.int y1), some (.int y3), some (.int y5), none]) (st' := [.int y1]) (h' := h) rfl ?_
      obtain ⟨y14, qy14, hf⟩ := gi_bind hf
      refine gi_EvCS rfl rfl rfl rfl rfl (e_X3_buyerOf h _ _ qy14) ?_
      show gi_Ev M_X1_tryAct 63 [some (.ref x0), some (.ref x1), some (.int x2), some (.int y1), some (.int y3), some (.int y5), none] [.int y14] h _
      refine gi_EvN 2 (pc' := 67) (lv' := [some (.ref x0), some (.ref x1), some (.int x2), some (.int y1), some (.int y3), some (.int y5), some (.int y14)]) (st' := [.int y3]) (h' := h) rfl ?_
      obtain ⟨y15, qy15, hf⟩ := gi_bind hf
      refine gi_EvCS rfl rfl rfl rfl rfl (e_X3_lifeOf h _ _ qy15) ?_
      show gi_Ev M_X1_tryAct 70 [some (.ref x0), some (.ref x1), some (.int x2), some (.int y1), some (.int y3), some (.int y5), some (.int y14)] [.int y15] h _
      obtain ⟨y16, qy16, hf⟩ := gi_bind hf
      refine gi_EvCS rfl rfl rfl rfl rfl (e_X5_isLife h _ _ qy16) ?_
      show gi_Ev M_X1_tryAct 73 [some (.ref x0), some (.ref x1), some (.int x2), some (.int y1), some (.int y3), some (.int y5), some (.int y14)] [.int y16] h _
      refine gi_Ev_eq rfl (fun c17 => ?_) (fun c17 => ?_)
      · rw [if_pos c17] at hf
        refine gi_EvN 1 (pc' := 107) (lv' := [some (.ref x0), some (.ref x1), some (.int x2), some (.int y1), some (.int y3), some (.int y5), some (.int y14)]) (st' := [.ref x0]) (h' := h) rfl ?_
        obtain ⟨y18, qy18, hf⟩ := gi_bind hf
        refine gi_EvF rfl (gi_fR_inv qy18) ?_
        refine gi_EvN 5 (pc' := 119) (lv' := [some (.ref x0), some (.ref x1), some (.int x2), some (.int y1), some (.int y3), some (.int y5), some (.int y14)]) (st' := [.int y5, .int (y3 - 48), .int y14, .ref y18]) (h' := h) rfl ?_
        obtain ⟨y19, qy19, hf⟩ := gi_bind hf
        refine gi_EvCS rfl rfl rfl rfl rfl (e_X3_buyerOf h _ _ qy19) ?_
        show gi_Ev M_X1_tryAct 122 [some (.ref x0), some (.ref x1), some (.int x2), some (.int y1), some (.int y3), some (.int y5), some (.int y14)] [.int y19, .int (y3 - 48), .int y14, .ref y18] h _
        by_cases c21 : gi_is h y18 0 = true
        rotate_left
        · rw [if_neg c21] at hf; cases hf
        rw [if_pos c21] at hf
        obtain ⟨y20, qy20, hf⟩ := gi_bind hf
        refine gi_EvCV rfl rfl c21 rfl rfl (e_X0_passOn h _ _ _ _ _ qy20) ?_
        show gi_Ev M_X1_tryAct 125 [some (.ref x0), some (.ref x1), some (.int x2), some (.int y1), some (.int y3), some (.int y5), some (.int y14)] [.int y20.1] y20.2 _
        cases hf
        exact gi_EvR rfl rfl
      · rw [if_neg c17] at hf
        refine gi_EvN 1 (pc' := 77) (lv' := [some (.ref x0), some (.ref x1), some (.int x2), some (.int y1), some (.int y3), some (.int y5), some (.int y14)]) (st' := [.ref x0]) (h' := h) rfl ?_
        obtain ⟨y22, qy22, hf⟩ := gi_bind hf
        refine gi_EvF rfl (gi_fR_inv qy22) ?_
        refine gi_EvN 2 (pc' := 84) (lv' := [some (.ref x0), some (.ref x1), some (.int x2), some (.int y1), some (.int y3), some (.int y5), some (.int y14)]) (st' := [.int y3, .int y14, .ref y22]) (h' := h) rfl ?_
        obtain ⟨y23, qy23, hf⟩ := gi_bind hf
        refine gi_EvCS rfl rfl rfl rfl rfl (e_X3_lifeOf h _ _ qy23) ?_
        show gi_Ev M_X1_tryAct 87 [some (.ref x0), some (.ref x1), some (.int x2), some (.int y1), some (.int y3), some (.int y5), some (.int y14)] [.int y23, .int y14, .ref y22] h _
        refine gi_EvN 7 (pc' := 96) (lv' := [some (.ref x0), some (.ref x1), some (.int x2), some (.int y1), some (.int y3), some (.int y5), some (.int y14)]) (st' := [.int (x2 + 3), .ref x1, .int (y5 - 48), .int y23, .int y14, .ref y22]) (h' := h) rfl ?_
        by_cases c25 : gi_is h x1 3 = true
        rotate_left
        · rw [if_neg c25] at hf; cases hf
        rw [if_pos c25] at hf
        obtain ⟨y24, qy24, hf⟩ := gi_bind hf
        refine gi_EvCV rfl rfl c25 rfl rfl (e_X3_signAt h _ _ _ qy24) ?_
        show gi_Ev M_X1_tryAct 99 [some (.ref x0), some (.ref x1), some (.int x2), some (.int y1), some (.int y3), some (.int y5), some (.int y14)] [.int y24, .int (y5 - 48), .int y23, .int y14, .ref y22] h _
        refine gi_EvN 2 (pc' := 102) (lv' := [some (.ref x0), some (.ref x1), some (.int x2), some (.int y1), some (.int y3), some (.int y5), some (.int y14)]) (st' := [.int (y24 - 48), .int (y5 - 48), .int y23, .int y14, .ref y22]) (h' := h) rfl ?_
        by_cases c27 : gi_is h y22 0 = true
        rotate_left
        · rw [if_neg c27] at hf; cases hf
        rw [if_pos c27] at hf
        obtain ⟨y26, qy26, hf⟩ := gi_bind hf
        refine gi_EvCV rfl rfl c27 rfl rfl (e_X0_buyPolicy h _ _ _ _ _ _ qy26) ?_
        show gi_Ev M_X1_tryAct 105 [some (.ref x0), some (.ref x1), some (.int x2), some (.int y1), some (.int y3), some (.int y5), some (.int y14)] [.int y26.1] y26.2 _
        cases hf
        exact gi_EvR rfl rfl
    · rw [if_neg c13] at hf
      refine gi_EvN 2 (pc' := 50) (lv' := [some (.ref x0), some (.ref x1), some (.int x2), some (.int y1), some (.int y3), some (.int y5), none]) (st' := [.int y1, .ref x0]) (h' := h) rfl ?_
      obtain ⟨y28, qy28, hf⟩ := gi_bind hf
      refine gi_EvCS rfl rfl rfl rfl rfl (e_X3_lifeOf h _ _ qy28) ?_
      show gi_Ev M_X1_tryAct 53 [some (.ref x0), some (.ref x1), some (.int x2), some (.int y1), some (.int y3), some (.int y5), none] [.int y28, .ref x0] h _
      refine gi_EvN 1 (pc' := 55) (lv' := [some (.ref x0), some (.ref x1), some (.int x2), some (.int y1), some (.int y3), some (.int y5), none]) (st' := [.int y3, .int y28, .ref x0]) (h' := h) rfl ?_
      by_cases c30 : gi_is h x0 1 = true
      rotate_left
      · rw [if_neg c30] at hf; cases hf
      rw [if_pos c30] at hf
      obtain ⟨y29, qy29, hf⟩ := gi_bind hf
      refine gi_EvCV rfl rfl c30 rfl rfl (e_X1_tryFate h _ _ _ _ qy29) ?_
      show gi_Ev M_X1_tryAct 58 [some (.ref x0), some (.ref x1), some (.int x2), some (.int y1), some (.int y3), some (.int y5), none] [.int y29.1] y29.2 _
      cases hf
      exact gi_EvR rfl rfl
/-! X3_stepOfFirst AdmiralGuinea$Pad.stepOfFirst(I)I -/
def f_X3_stepOfFirst (x0 : Int32) : Option Int32 :=
  if x0 = 46 then some (0)
  else (f_X3_lifeOf x0).bind fun y2 => (f_X5_isLife y2).bind fun y3 => if y3 = 0 then (f_X3_buyerOf x0).bind fun y5 => (f_X5_isBuyer y5).bind fun y6 => if y6 = 0 then some ((-1))
  else some (1)
  else some (5)
set_option maxRecDepth 20000 in
set_option maxHeartbeats 2000000 in
theorem e_X3_stepOfFirst (h : gi_H) (x0 : Int32) (r : Int32) (hf : f_X3_stepOfFirst x0 = some r) : gi_Ev M_X3_stepOfFirst 0 [some (.int x0)] [] h (some (.int r), h) := by
  unfold f_X3_stepOfFirst at hf
  refine gi_EvN 2 (pc' := 3) (lv' := [some (.int x0)]) (st' := [.int 46, .int x0]) (h' := h) rfl ?_
  refine gi_Ev_ine rfl (fun c1 => ?_) (fun c1 => ?_)
  · rw [if_pos c1] at hf
    refine gi_EvN 1 (pc' := 7) (lv' := [some (.int x0)]) (st' := [.int 0]) (h' := h) rfl ?_
    cases hf
    exact gi_EvR rfl rfl
  · rw [if_neg c1] at hf
    refine gi_EvN 1 (pc' := 9) (lv' := [some (.int x0)]) (st' := [.int x0]) (h' := h) rfl ?_
    obtain ⟨y2, qy2, hf⟩ := gi_bind hf
    refine gi_EvCS rfl rfl rfl rfl rfl (e_X3_lifeOf h _ _ qy2) ?_
    show gi_Ev M_X3_stepOfFirst 12 [some (.int x0)] [.int y2] h _
    obtain ⟨y3, qy3, hf⟩ := gi_bind hf
    refine gi_EvCS rfl rfl rfl rfl rfl (e_X5_isLife h _ _ qy3) ?_
    show gi_Ev M_X3_stepOfFirst 15 [some (.int x0)] [.int y3] h _
    refine gi_Ev_eq rfl (fun c4 => ?_) (fun c4 => ?_)
    · rw [if_pos c4] at hf
      refine gi_EvN 1 (pc' := 21) (lv' := [some (.int x0)]) (st' := [.int x0]) (h' := h) rfl ?_
      obtain ⟨y5, qy5, hf⟩ := gi_bind hf
      refine gi_EvCS rfl rfl rfl rfl rfl (e_X3_buyerOf h _ _ qy5) ?_
      show gi_Ev M_X3_stepOfFirst 24 [some (.int x0)] [.int y5] h _
      obtain ⟨y6, qy6, hf⟩ := gi_bind hf
      refine gi_EvCS rfl rfl rfl rfl rfl (e_X5_isBuyer h _ _ qy6) ?_
      show gi_Ev M_X3_stepOfFirst 27 [some (.int x0)] [.int y6] h _
      refine gi_Ev_eq rfl (fun c7 => ?_) (fun c7 => ?_)
      · rw [if_pos c7] at hf
        refine gi_EvN 1 (pc' := 35) (lv' := [some (.int x0)]) (st' := [.int (-1)]) (h' := h) rfl ?_
        cases hf
        exact gi_EvR rfl rfl
      · rw [if_neg c7] at hf
        refine gi_EvN 2 (pc' := 35) (lv' := [some (.int x0)]) (st' := [.int 1]) (h' := h) rfl ?_
        cases hf
        exact gi_EvR rfl rfl
    · rw [if_neg c4] at hf
      refine gi_EvN 1 (pc' := 19) (lv' := [some (.int x0)]) (st' := [.int 5]) (h' := h) rfl ?_
      cases hf
      exact gi_EvR rfl rfl
/-! X3_stepOfSecond AdmiralGuinea$Pad.stepOfSecond(I)I -/
def f_X3_stepOfSecond (x0 : Int32) : Option Int32 :=
  (f_X3_lifeOf x0).bind fun y1 => (f_X5_isLife y1).bind fun y2 => if y2 = 0 then (f_X5_isWithin x0 48 57).bind fun y4 => if y4 = 0 then some ((-1))
  else some (4)
  else some (2)
set_option maxRecDepth 20000 in
set_option maxHeartbeats 2000000 in
theorem e_X3_stepOfSecond (h : gi_H) (x0 : Int32) (r : Int32) (hf : f_X3_stepOfSecond x0 = some r) : gi_Ev M_X3_stepOfSecond 0 [some (.int x0)] [] h (some (.int r), h) := by
  unfold f_X3_stepOfSecond at hf
  refine gi_EvN 1 (pc' := 1) (lv' := [some (.int x0)]) (st' := [.int x0]) (h' := h) rfl ?_
  obtain ⟨y1, qy1, hf⟩ := gi_bind hf
  refine gi_EvCS rfl rfl rfl rfl rfl (e_X3_lifeOf h _ _ qy1) ?_
  show gi_Ev M_X3_stepOfSecond 4 [some (.int x0)] [.int y1] h _
  obtain ⟨y2, qy2, hf⟩ := gi_bind hf
  refine gi_EvCS rfl rfl rfl rfl rfl (e_X5_isLife h _ _ qy2) ?_
  show gi_Ev M_X3_stepOfSecond 7 [some (.int x0)] [.int y2] h _
  refine gi_Ev_eq rfl (fun c3 => ?_) (fun c3 => ?_)
  · rw [if_pos c3] at hf
    refine gi_EvN 3 (pc' := 17) (lv' := [some (.int x0)]) (st' := [.int 57, .int 48, .int x0]) (h' := h) rfl ?_
    obtain ⟨y4, qy4, hf⟩ := gi_bind hf
    refine gi_EvCS rfl rfl rfl rfl rfl (e_X5_isWithin h _ _ _ _ qy4) ?_
    show gi_Ev M_X3_stepOfSecond 20 [some (.int x0)] [.int y4] h _
    refine gi_Ev_eq rfl (fun c5 => ?_) (fun c5 => ?_)
    · rw [if_pos c5] at hf
      refine gi_EvN 1 (pc' := 28) (lv' := [some (.int x0)]) (st' := [.int (-1)]) (h' := h) rfl ?_
      cases hf
      exact gi_EvR rfl rfl
    · rw [if_neg c5] at hf
      refine gi_EvN 2 (pc' := 28) (lv' := [some (.int x0)]) (st' := [.int 4]) (h' := h) rfl ?_
      cases hf
      exact gi_EvR rfl rfl
  · rw [if_neg c3] at hf
    refine gi_EvN 1 (pc' := 11) (lv' := [some (.int x0)]) (st' := [.int 2]) (h' := h) rfl ?_
    cases hf
    exact gi_EvR rfl rfl
/-! X3_stepBehind AdmiralGuinea$Pad.stepBehind(II)I -/
def f_X3_stepBehind (x0 : Int32) (x1 : Int32) : Option Int32 :=
  if x0 = 0 then (f_X3_stepOfFirst x1).bind fun y2 => some (y2)
  else if x0 = 1 then (f_X3_stepOfSecond x1).bind fun y4 => some (y4)
  else if x0 = 2 then (f_X5_isWithin x1 49 57).bind fun y6 => if y6 = 0 then some ((-1))
  else some (3)
  else if x0 = 3 then (f_X5_isWithin x1 49 57).bind fun y9 => if y9 = 0 then some ((-1))
  else some (0)
  else if x0 = 4 then (f_X3_buyerOf x1).bind fun y12 => (f_X5_isBuyer y12).bind fun y13 => if y13 = 0 then some ((-1))
  else some (0)
  else if x0 = 5 then if x1 = 43 then some (0)
  else if x1 = 45 then some (0)
  else if x1 = 120 then some (0)
  else some ((-1))
  else some ((-1))
set_option maxRecDepth 20000 in
set_option maxHeartbeats 2000000 in
theorem e_X3_stepBehind (h : gi_H) (x0 : Int32) (x1 : Int32) (r : Int32) (hf : f_X3_stepBehind x0 x1 = some r) : gi_Ev M_X3_stepBehind 0 [some (.int x0), some (.int x1)] [] h (some (.int r), h) := by
  unfold f_X3_stepBehind at hf
  refine gi_EvN 1 (pc' := 1) (lv' := [some (.int x0), some (.int x1)]) (st' := [.int x0]) (h' := h) rfl ?_
  by_cases c1 : x0 = 0
  · rw [if_pos c1] at hf
    refine gi_EvTs (t := 40) rfl (gi_sw_at c1 (by decide)) ?_
    refine gi_EvN 1 (pc' := 41) (lv' := [some (.int x0), some (.int x1)]) (st' := [.int x1]) (h' := h) rfl ?_
    obtain ⟨y2, qy2, hf⟩ := gi_bind hf
    refine gi_EvCS rfl rfl rfl rfl rfl (e_X3_stepOfFirst h _ _ qy2) ?_
    show gi_Ev M_X3_stepBehind 44 [some (.int x0), some (.int x1)] [.int y2] h _
    cases hf
    exact gi_EvR rfl rfl
  rw [if_neg c1] at hf
  by_cases c3 : x0 = 1
  · rw [if_pos c3] at hf
    refine gi_EvTs (t := 45) rfl (gi_sw_at c3 (by decide)) ?_
    refine gi_EvN 1 (pc' := 46) (lv' := [some (.int x0), some (.int x1)]) (st' := [.int x1]) (h' := h) rfl ?_
    obtain ⟨y4, qy4, hf⟩ := gi_bind hf
    refine gi_EvCS rfl rfl rfl rfl rfl (e_X3_stepOfSecond h _ _ qy4) ?_
    show gi_Ev M_X3_stepBehind 49 [some (.int x0), some (.int x1)] [.int y4] h _
    cases hf
    exact gi_EvR rfl rfl
  rw [if_neg c3] at hf
  by_cases c5 : x0 = 2
  · rw [if_pos c5] at hf
    refine gi_EvTs (t := 50) rfl (gi_sw_at c5 (by decide)) ?_
    refine gi_EvN 3 (pc' := 55) (lv' := [some (.int x0), some (.int x1)]) (st' := [.int 57, .int 49, .int x1]) (h' := h) rfl ?_
    obtain ⟨y6, qy6, hf⟩ := gi_bind hf
    refine gi_EvCS rfl rfl rfl rfl rfl (e_X5_isWithin h _ _ _ _ qy6) ?_
    show gi_Ev M_X3_stepBehind 58 [some (.int x0), some (.int x1)] [.int y6] h _
    refine gi_Ev_eq rfl (fun c7 => ?_) (fun c7 => ?_)
    · rw [if_pos c7] at hf
      refine gi_EvN 1 (pc' := 66) (lv' := [some (.int x0), some (.int x1)]) (st' := [.int (-1)]) (h' := h) rfl ?_
      cases hf
      exact gi_EvR rfl rfl
    · rw [if_neg c7] at hf
      refine gi_EvN 2 (pc' := 66) (lv' := [some (.int x0), some (.int x1)]) (st' := [.int 3]) (h' := h) rfl ?_
      cases hf
      exact gi_EvR rfl rfl
  rw [if_neg c5] at hf
  by_cases c8 : x0 = 3
  · rw [if_pos c8] at hf
    refine gi_EvTs (t := 67) rfl (gi_sw_at c8 (by decide)) ?_
    refine gi_EvN 3 (pc' := 72) (lv' := [some (.int x0), some (.int x1)]) (st' := [.int 57, .int 49, .int x1]) (h' := h) rfl ?_
    obtain ⟨y9, qy9, hf⟩ := gi_bind hf
    refine gi_EvCS rfl rfl rfl rfl rfl (e_X5_isWithin h _ _ _ _ qy9) ?_
    show gi_Ev M_X3_stepBehind 75 [some (.int x0), some (.int x1)] [.int y9] h _
    refine gi_Ev_eq rfl (fun c10 => ?_) (fun c10 => ?_)
    · rw [if_pos c10] at hf
      refine gi_EvN 1 (pc' := 83) (lv' := [some (.int x0), some (.int x1)]) (st' := [.int (-1)]) (h' := h) rfl ?_
      cases hf
      exact gi_EvR rfl rfl
    · rw [if_neg c10] at hf
      refine gi_EvN 2 (pc' := 83) (lv' := [some (.int x0), some (.int x1)]) (st' := [.int 0]) (h' := h) rfl ?_
      cases hf
      exact gi_EvR rfl rfl
  rw [if_neg c8] at hf
  by_cases c11 : x0 = 4
  · rw [if_pos c11] at hf
    refine gi_EvTs (t := 84) rfl (gi_sw_at c11 (by decide)) ?_
    refine gi_EvN 1 (pc' := 85) (lv' := [some (.int x0), some (.int x1)]) (st' := [.int x1]) (h' := h) rfl ?_
    obtain ⟨y12, qy12, hf⟩ := gi_bind hf
    refine gi_EvCS rfl rfl rfl rfl rfl (e_X3_buyerOf h _ _ qy12) ?_
    show gi_Ev M_X3_stepBehind 88 [some (.int x0), some (.int x1)] [.int y12] h _
    obtain ⟨y13, qy13, hf⟩ := gi_bind hf
    refine gi_EvCS rfl rfl rfl rfl rfl (e_X5_isBuyer h _ _ qy13) ?_
    show gi_Ev M_X3_stepBehind 91 [some (.int x0), some (.int x1)] [.int y13] h _
    refine gi_Ev_eq rfl (fun c14 => ?_) (fun c14 => ?_)
    · rw [if_pos c14] at hf
      refine gi_EvN 1 (pc' := 99) (lv' := [some (.int x0), some (.int x1)]) (st' := [.int (-1)]) (h' := h) rfl ?_
      cases hf
      exact gi_EvR rfl rfl
    · rw [if_neg c14] at hf
      refine gi_EvN 2 (pc' := 99) (lv' := [some (.int x0), some (.int x1)]) (st' := [.int 0]) (h' := h) rfl ?_
      cases hf
      exact gi_EvR rfl rfl
  rw [if_neg c11] at hf
  by_cases c15 : x0 = 5
  · rw [if_pos c15] at hf
    refine gi_EvTs (t := 100) rfl (gi_sw_at c15 (by decide)) ?_
    refine gi_EvN 2 (pc' := 103) (lv' := [some (.int x0), some (.int x1)]) (st' := [.int 43, .int x1]) (h' := h) rfl ?_
    refine gi_Ev_ieq rfl (fun c16 => ?_) (fun c16 => ?_)
    · rw [if_pos c16] at hf
      refine gi_EvN 2 (pc' := 123) (lv' := [some (.int x0), some (.int x1)]) (st' := [.int 0]) (h' := h) rfl ?_
      cases hf
      exact gi_EvR rfl rfl
    · rw [if_neg c16] at hf
      refine gi_EvN 2 (pc' := 109) (lv' := [some (.int x0), some (.int x1)]) (st' := [.int 45, .int x1]) (h' := h) rfl ?_
      refine gi_Ev_ieq rfl (fun c17 => ?_) (fun c17 => ?_)
      · rw [if_pos c17] at hf
        refine gi_EvN 2 (pc' := 123) (lv' := [some (.int x0), some (.int x1)]) (st' := [.int 0]) (h' := h) rfl ?_
        cases hf
        exact gi_EvR rfl rfl
      · rw [if_neg c17] at hf
        refine gi_EvN 2 (pc' := 115) (lv' := [some (.int x0), some (.int x1)]) (st' := [.int 120, .int x1]) (h' := h) rfl ?_
        refine gi_Ev_ine rfl (fun c18 => ?_) (fun c18 => ?_)
        · rw [if_pos c18] at hf
          refine gi_EvN 2 (pc' := 123) (lv' := [some (.int x0), some (.int x1)]) (st' := [.int 0]) (h' := h) rfl ?_
          cases hf
          exact gi_EvR rfl rfl
        · rw [if_neg c18] at hf
          refine gi_EvN 1 (pc' := 123) (lv' := [some (.int x0), some (.int x1)]) (st' := [.int (-1)]) (h' := h) rfl ?_
          cases hf
          exact gi_EvR rfl rfl
  rw [if_neg c15] at hf
  have ic1 := lv_neT c1 (show (0 : Int32).toInt = 0 by decide)
  have ic3 := lv_neT c3 (show (1 : Int32).toInt = 1 by decide)
  have ic5 := lv_neT c5 (show (2 : Int32).toInt = 2 by decide)
  have ic8 := lv_neT c8 (show (3 : Int32).toInt = 3 by decide)
  have ic11 := lv_neT c11 (show (4 : Int32).toInt = 4 by decide)
  have ic15 := lv_neT c15 (show (5 : Int32).toInt = 5 by decide)
  refine gi_EvTs (t := 124) rfl (gi_sw_out (by omega) (by decide)) ?_
  refine gi_EvN 1 (pc' := 125) (lv' := [some (.int x0), some (.int x1)]) (st' := [.int (-1)]) (h' := h) rfl ?_
  cases hf
  exact gi_EvR rfl rfl
/-! X1_readPad AdmiralGuinea$Course.readPad(LAdmiralGuinea$Book;LAdmiralGuinea$Pad;)Z -/
def f_X1_readPad_105 (k_44 : gi_H → Nat → Nat → Int32 → Int32 → Int32 → Option (Int32 × gi_H)) (h : gi_H) (x0 : Nat) (x2 : Nat) (x3 : Int32) (x5 : Int32) : Option (Int32 × gi_H) :=
  (gi_fI h x0 1 1).bind fun y1 => (gi_fp h x0 1 1 (.int (y1 + 1))).bind fun h2 => k_44 h2 x0 x2 x3 (x5 + 1) (x5 + 1)
set_option maxRecDepth 20000 in
set_option maxHeartbeats 2000000 in
theorem e_X1_readPad_105 (k_44 : gi_H → Nat → Nat → Int32 → Int32 → Int32 → Option (Int32 × gi_H)) (hk_44 : ∀ (g1 : Option Value) (g6 : Option Value) (h : gi_H) (x0 : Nat) (x2 : Nat) (x3 : Int32) (x4 : Int32) (x5 : Int32) (r : (Int32 × gi_H)), k_44 h x0 x2 x3 x4 x5 = some r → gi_Ev M_X1_readPad 44 [some (.ref x0), g1, some (.ref x2), some (.int x3), some (.int x4), some (.int x5), g6] [] h (some (.int r.1), r.2)) (g1 : Option Value) (g4 : Option Value) (g6 : Option Value) (h : gi_H) (x0 : Nat) (x2 : Nat) (x3 : Int32) (x5 : Int32) (r : (Int32 × gi_H)) (hf : f_X1_readPad_105 k_44 h x0 x2 x3 x5 = some r) : gi_Ev M_X1_readPad 105 [some (.ref x0), g1, some (.ref x2), some (.int x3), g4, some (.int x5), g6] [] h (some (.int r.1), r.2) := by
  unfold f_X1_readPad_105 at hf
  refine gi_EvN 6 (pc' := 113) (lv' := [some (.ref x0), g1, some (.ref x2), some (.int x3), some (.int (x5 + 1)), some (.int x5), g6]) (st' := [.ref x0, .ref x0]) (h' := h) rfl ?_
  obtain ⟨y1, qy1, hf⟩ := gi_bind hf
  refine gi_EvF rfl (gi_fI_inv qy1) ?_
  refine gi_EvN 2 (pc' := 118) (lv' := [some (.ref x0), g1, some (.ref x2), some (.int x3), some (.int (x5 + 1)), some (.int x5), g6]) (st' := [.int (y1 + 1), .ref x0]) (h' := h) rfl ?_
  obtain ⟨h2, qh2, hf⟩ := gi_bind hf
  refine gi_EvFp rfl rfl qh2 ?_
  refine gi_EvN 2 (pc' := 44) (lv' := [some (.ref x0), g1, some (.ref x2), some (.int x3), some (.int (x5 + 1)), some (.int (x5 + 1)), g6]) (st' := []) (h' := h2) rfl ?_
  exact hk_44 _ _ _ _  _  _  _  _ _ hf
def f_X1_readPad_127 (h : gi_H) (x0 : Nat) : Option (Int32 × gi_H) :=
  (gi_fI h x0 1 2).bind fun y1 => if y1 = (-6) then some (1, h)
  else some (0, h)
set_option maxRecDepth 20000 in
set_option maxHeartbeats 2000000 in
theorem e_X1_readPad_127 (g1 : Option Value) (g2 : Option Value) (g3 : Option Value) (g4 : Option Value) (g5 : Option Value) (g6 : Option Value) (h : gi_H) (x0 : Nat) (r : (Int32 × gi_H)) (hf : f_X1_readPad_127 h x0 = some r) : gi_Ev M_X1_readPad 127 [some (.ref x0), g1, g2, g3, g4, g5, g6] [] h (some (.int r.1), r.2) := by
  unfold f_X1_readPad_127 at hf
  refine gi_EvN 1 (pc' := 128) (lv' := [some (.ref x0), g1, g2, g3, g4, g5, g6]) (st' := [.ref x0]) (h' := h) rfl ?_
  obtain ⟨y1, qy1, hf⟩ := gi_bind hf
  refine gi_EvF rfl (gi_fI_inv qy1) ?_
  refine gi_EvN 1 (pc' := 133) (lv' := [some (.ref x0), g1, g2, g3, g4, g5, g6]) (st' := [.int (-6), .int y1]) (h' := h) rfl ?_
  refine gi_Ev_ine rfl (fun c2 => ?_) (fun c2 => ?_)
  · rw [if_pos c2] at hf
    refine gi_EvN 2 (pc' := 141) (lv' := [some (.ref x0), g1, g2, g3, g4, g5, g6]) (st' := [.int 1]) (h' := h) rfl ?_
    cases hf
    exact gi_EvR rfl rfl
  · rw [if_neg c2] at hf
    refine gi_EvN 1 (pc' := 141) (lv' := [some (.ref x0), g1, g2, g3, g4, g5, g6]) (st' := [.int 0]) (h' := h) rfl ?_
    cases hf
    exact gi_EvR rfl rfl
def f_X1_readPad_44 : Nat → gi_H → Nat → Nat → Int32 → Int32 → Int32 → Option (Int32 × gi_H)
  | 0, _, _, _, _, _, _ => none
  | n + 1, h, x0, x2, x3, x4, x5 => (gi_fI h x2 3 0).bind fun y1 => if y1 ≤ x5 then f_X1_readPad_127 h x0
  else (gi_fI h x0 1 2).bind fun y3 => if y3 = (-6) then if gi_is h x2 3 = true then (f_X3_signAt h x2 x5).bind fun y5 => (f_X3_stepBehind x3 y5).bind fun y7 => if y7 = 0 then if gi_is h x0 1 = true then (f_X1_tryAct h x0 x2 x4).bind fun y9 => if y9.1 = 0 then f_X1_readPad_105 (f_X1_readPad_44 n) y9.2 x0 x2 y7 x5
  else (gi_fI y9.2 x0 1 1).bind fun y12 => (gi_fp y9.2 x0 1 2 (.int y12)).bind fun h13 => (gi_fp h13 x0 1 3 (.int y9.1)).bind fun h14 => f_X1_readPad_105 (f_X1_readPad_44 n) h14 x0 x2 y7 x5 else none
  else f_X1_readPad_44 n h x0 x2 y7 x4 (x5 + 1) else none
  else f_X1_readPad_127 h x0
set_option maxRecDepth 20000 in
set_option maxHeartbeats 2000000 in
theorem e_X1_readPad_44 : ∀ (n : Nat) (g1 : Option Value) (g6 : Option Value) (h : gi_H) (x0 : Nat) (x2 : Nat) (x3 : Int32) (x4 : Int32) (x5 : Int32) (r : (Int32 × gi_H)), f_X1_readPad_44 n h x0 x2 x3 x4 x5 = some r → gi_Ev M_X1_readPad 44 [some (.ref x0), g1, some (.ref x2), some (.int x3), some (.int x4), some (.int x5), g6] [] h (some (.int r.1), r.2) := by
  intro n
  induction n with
  | zero =>
    intro g1 g6 h x0 x2 x3 x4 x5 r hf
    unfold f_X1_readPad_44 at hf
    cases hf
  | succ n ih =>
    intro g1 g6 h x0 x2 x3 x4 x5 r hf
    unfold f_X1_readPad_44 at hf
    refine gi_EvN 2 (pc' := 47) (lv' := [some (.ref x0), g1, some (.ref x2), some (.int x3), some (.int x4), some (.int x5), g6]) (st' := [.ref x2, .int x5]) (h' := h) rfl ?_
    obtain ⟨y1, qy1, hf⟩ := gi_bind hf
    refine gi_EvF rfl (gi_fI_inv qy1) ?_
    refine gi_Ev_ige rfl (fun c2 => ?_) (fun c2 => ?_)
    · rw [if_pos c2] at hf
      exact e_X1_readPad_127 _ _ _ _ _ _ h _ _ hf
    · rw [if_neg c2] at hf
      refine gi_EvN 1 (pc' := 54) (lv' := [some (.ref x0), g1, some (.ref x2), some (.int x3), some (.int x4), some (.int x5), g6]) (st' := [.ref x0]) (h' := h) rfl ?_
      obtain ⟨y3, qy3, hf⟩ := gi_bind hf
      refine gi_EvF rfl (gi_fI_inv qy3) ?_
      refine gi_EvN 1 (pc' := 59) (lv' := [some (.ref x0), g1, some (.ref x2), some (.int x3), some (.int x4), some (.int x5), g6]) (st' := [.int (-6), .int y3]) (h' := h) rfl ?_
      refine gi_Ev_ine rfl (fun c4 => ?_) (fun c4 => ?_)
      · rw [if_pos c4] at hf
        refine gi_EvN 3 (pc' := 66) (lv' := [some (.ref x0), g1, some (.ref x2), some (.int x3), some (.int x4), some (.int x5), g6]) (st' := [.int x5, .ref x2, .int x3]) (h' := h) rfl ?_
        by_cases c6 : gi_is h x2 3 = true
        rotate_left
        · rw [if_neg c6] at hf; cases hf
        rw [if_pos c6] at hf
        obtain ⟨y5, qy5, hf⟩ := gi_bind hf
        refine gi_EvCV rfl rfl c6 rfl rfl (e_X3_signAt h _ _ _ qy5) ?_
        show gi_Ev M_X1_readPad 69 [some (.ref x0), g1, some (.ref x2), some (.int x3), some (.int x4), some (.int x5), g6] [.int y5, .int x3] h _
        obtain ⟨y7, qy7, hf⟩ := gi_bind hf
        refine gi_EvCS rfl rfl rfl rfl rfl (e_X3_stepBehind h _ _ _ qy7) ?_
        show gi_Ev M_X1_readPad 72 [some (.ref x0), g1, some (.ref x2), some (.int x3), some (.int x4), some (.int x5), g6] [.int y7] h _
        refine gi_EvN 2 (pc' := 74) (lv' := [some (.ref x0), g1, some (.ref x2), some (.int y7), some (.int x4), some (.int x5), g6]) (st' := [.int y7]) (h' := h) rfl ?_
        refine gi_Ev_ne rfl (fun c8 => ?_) (fun c8 => ?_)
        · rw [if_pos c8] at hf
          refine gi_EvN 3 (pc' := 81) (lv' := [some (.ref x0), g1, some (.ref x2), some (.int y7), some (.int x4), some (.int x5), g6]) (st' := [.int x4, .ref x2, .ref x0]) (h' := h) rfl ?_
          by_cases c10 : gi_is h x0 1 = true
          rotate_left
          · rw [if_neg c10] at hf; cases hf
          rw [if_pos c10] at hf
          obtain ⟨y9, qy9, hf⟩ := gi_bind hf
          refine gi_EvCV rfl rfl c10 rfl rfl (e_X1_tryAct h _ _ _ _ qy9) ?_
          show gi_Ev M_X1_readPad 84 [some (.ref x0), g1, some (.ref x2), some (.int y7), some (.int x4), some (.int x5), g6] [.int y9.1] y9.2 _
          refine gi_EvN 2 (pc' := 88) (lv' := [some (.ref x0), g1, some (.ref x2), some (.int y7), some (.int x4), some (.int x5), some (.int y9.1)]) (st' := [.int y9.1]) (h' := y9.2) rfl ?_
          refine gi_Ev_eq rfl (fun c11 => ?_) (fun c11 => ?_)
          · rw [if_pos c11] at hf
            exact e_X1_readPad_105 _ ih _ _ _ y9.2 _ _ _ _ _ hf
          · rw [if_neg c11] at hf
            refine gi_EvN 2 (pc' := 93) (lv' := [some (.ref x0), g1, some (.ref x2), some (.int y7), some (.int x4), some (.int x5), some (.int y9.1)]) (st' := [.ref x0, .ref x0]) (h' := y9.2) rfl ?_
            obtain ⟨y12, qy12, hf⟩ := gi_bind hf
            refine gi_EvF rfl (gi_fI_inv qy12) ?_
            obtain ⟨h13, qh13, hf⟩ := gi_bind hf
            refine gi_EvFp rfl rfl qh13 ?_
            refine gi_EvN 2 (pc' := 102) (lv' := [some (.ref x0), g1, some (.ref x2), some (.int y7), some (.int x4), some (.int x5), some (.int y9.1)]) (st' := [.int y9.1, .ref x0]) (h' := h13) rfl ?_
            obtain ⟨h14, qh14, hf⟩ := gi_bind hf
            refine gi_EvFp rfl rfl qh14 ?_
            exact e_X1_readPad_105 _ ih _ _ _ h14 _ _ _ _ _ hf
        · rw [if_neg c8] at hf
          refine gi_EvN 2 (pc' := 44) (lv' := [some (.ref x0), g1, some (.ref x2), some (.int y7), some (.int x4), some (.int (x5 + 1)), g6]) (st' := []) (h' := h) rfl ?_
          exact ih _ _ _ _  _  _  _  _ _ hf
      · rw [if_neg c4] at hf
        exact e_X1_readPad_127 _ _ _ _ _ _ h _ _ hf
def f_X1_readPad (h : gi_H) (x0 : Nat) (x1 : Nat) (x2 : Nat) : Option (Int32 × gi_H) :=
  (gi_fR h x0 1 0).bind fun y1 => if gi_is h y1 0 = true then (f_X0_copyFrom h y1 x1).bind fun h2 => (gi_fp h2 x0 1 1 (.int 0)).bind fun h4 => (gi_fp h4 x0 1 2 (.int (-6))).bind fun h5 => (gi_fp h5 x0 1 3 (.int (-6))).bind fun h6 => (gi_fp h6 x0 1 4 (.int 0)).bind fun h7 => (gi_fp h7 x0 1 5 (.int (-6))).bind fun h8 => f_X1_readPad_44 gi_F h8 x0 x2 0 0 0 else none
set_option maxRecDepth 20000 in
set_option maxHeartbeats 2000000 in
theorem e_X1_readPad (h : gi_H) (x0 : Nat) (x1 : Nat) (x2 : Nat) (r : (Int32 × gi_H)) (hf : f_X1_readPad h x0 x1 x2 = some r) : gi_Ev M_X1_readPad 0 [some (.ref x0), some (.ref x1), some (.ref x2), none, none, none, none] [] h (some (.int r.1), r.2) := by
  unfold f_X1_readPad at hf
  refine gi_EvN 1 (pc' := 1) (lv' := [some (.ref x0), some (.ref x1), some (.ref x2), none, none, none, none]) (st' := [.ref x0]) (h' := h) rfl ?_
  obtain ⟨y1, qy1, hf⟩ := gi_bind hf
  refine gi_EvF rfl (gi_fR_inv qy1) ?_
  refine gi_EvN 1 (pc' := 5) (lv' := [some (.ref x0), some (.ref x1), some (.ref x2), none, none, none, none]) (st' := [.ref x1, .ref y1]) (h' := h) rfl ?_
  by_cases c3 : gi_is h y1 0 = true
  rotate_left
  · rw [if_neg c3] at hf; cases hf
  rw [if_pos c3] at hf
  obtain ⟨h2, qh2, hf⟩ := gi_bind hf
  refine gi_EvCV rfl rfl c3 rfl rfl (e_X0_copyFrom h _ _ _ qh2) ?_
  show gi_Ev M_X1_readPad 8 [some (.ref x0), some (.ref x1), some (.ref x2), none, none, none, none] [] h2 _
  refine gi_EvN 2 (pc' := 10) (lv' := [some (.ref x0), some (.ref x1), some (.ref x2), none, none, none, none]) (st' := [.int 0, .ref x0]) (h' := h2) rfl ?_
  obtain ⟨h4, qh4, hf⟩ := gi_bind hf
  refine gi_EvFp rfl rfl qh4 ?_
  refine gi_EvN 2 (pc' := 16) (lv' := [some (.ref x0), some (.ref x1), some (.ref x2), none, none, none, none]) (st' := [.int (-6), .ref x0]) (h' := h4) rfl ?_
  obtain ⟨h5, qh5, hf⟩ := gi_bind hf
  refine gi_EvFp rfl rfl qh5 ?_
  refine gi_EvN 2 (pc' := 22) (lv' := [some (.ref x0), some (.ref x1), some (.ref x2), none, none, none, none]) (st' := [.int (-6), .ref x0]) (h' := h5) rfl ?_
  obtain ⟨h6, qh6, hf⟩ := gi_bind hf
  refine gi_EvFp rfl rfl qh6 ?_
  refine gi_EvN 2 (pc' := 27) (lv' := [some (.ref x0), some (.ref x1), some (.ref x2), none, none, none, none]) (st' := [.int 0, .ref x0]) (h' := h6) rfl ?_
  obtain ⟨h7, qh7, hf⟩ := gi_bind hf
  refine gi_EvFp rfl rfl qh7 ?_
  refine gi_EvN 2 (pc' := 33) (lv' := [some (.ref x0), some (.ref x1), some (.ref x2), none, none, none, none]) (st' := [.int (-6), .ref x0]) (h' := h7) rfl ?_
  obtain ⟨h8, qh8, hf⟩ := gi_bind hf
  refine gi_EvFp rfl rfl qh8 ?_
  refine gi_EvN 6 (pc' := 44) (lv' := [some (.ref x0), some (.ref x1), some (.ref x2), some (.int 0), some (.int 0), some (.int 0), none]) (st' := []) (h' := h8) rfl ?_
  exact e_X1_readPad_44 gi_F _ _ h8 _ _ _ _ _ _ hf
/-! X1_drawMonths AdmiralGuinea$Course.drawMonths(LAdmiralGuinea$Book;II)V -/
def f_X1_drawMonths_115 (k_14 : gi_H → Nat → Int32 → Int32 → Int32 → Option gi_H) (h : gi_H) (x0 : Nat) (x3 : Int32) (x4 : Int32) (x5 : Int32) : Option gi_H :=
  (gi_fR h x0 1 0).bind fun y1 => if gi_is h y1 0 = true then (f_X0_turnMonth h y1).bind fun y2 => k_14 y2.2 x0 x3 x4 (x5 + 1) else none
set_option maxRecDepth 20000 in
set_option maxHeartbeats 2000000 in
theorem e_X1_drawMonths_115 (k_14 : gi_H → Nat → Int32 → Int32 → Int32 → Option gi_H) (hk_14 : ∀ (g1 : Option Value) (g2 : Option Value) (g6 : Option Value) (h : gi_H) (x0 : Nat) (x3 : Int32) (x4 : Int32) (x5 : Int32) (r : gi_H), k_14 h x0 x3 x4 x5 = some r → gi_Ev M_X1_drawMonths 14 [some (.ref x0), g1, g2, some (.int x3), some (.int x4), some (.int x5), g6] [] h (none, r)) (g1 : Option Value) (g2 : Option Value) (g6 : Option Value) (h : gi_H) (x0 : Nat) (x3 : Int32) (x4 : Int32) (x5 : Int32) (r : gi_H) (hf : f_X1_drawMonths_115 k_14 h x0 x3 x4 x5 = some r) : gi_Ev M_X1_drawMonths 115 [some (.ref x0), g1, g2, some (.int x3), some (.int x4), some (.int x5), g6] [] h (none, r) := by
  unfold f_X1_drawMonths_115 at hf
  refine gi_EvN 1 (pc' := 116) (lv' := [some (.ref x0), g1, g2, some (.int x3), some (.int x4), some (.int x5), g6]) (st' := [.ref x0]) (h' := h) rfl ?_
  obtain ⟨y1, qy1, hf⟩ := gi_bind hf
  refine gi_EvF rfl (gi_fR_inv qy1) ?_
  by_cases c3 : gi_is h y1 0 = true
  rotate_left
  · rw [if_neg c3] at hf; cases hf
  rw [if_pos c3] at hf
  obtain ⟨y2, qy2, hf⟩ := gi_bind hf
  refine gi_EvCV rfl rfl c3 rfl rfl (e_X0_turnMonth h _ _ qy2) ?_
  show gi_Ev M_X1_drawMonths 122 [some (.ref x0), g1, g2, some (.int x3), some (.int x4), some (.int x5), g6] [.int y2.1] y2.2 _
  refine gi_EvN 3 (pc' := 14) (lv' := [some (.ref x0), g1, g2, some (.int x3), some (.int x4), some (.int (x5 + 1)), g6]) (st' := []) (h' := y2.2) rfl ?_
  exact hk_14 _ _ _ _ _  _  _  _ _ hf
def f_X1_drawMonths_86 (k_14 : gi_H → Nat → Int32 → Int32 → Int32 → Option gi_H) (h : gi_H) (x0 : Nat) (x3 : Int32) (x4 : Int32) (x5 : Int32) (x6 : Int32) : Option gi_H :=
  (gi_fR h x0 1 0).bind fun y1 => if gi_is h y1 0 = true then (f_X0_buyPolicy h y1 ((x4 / 60) - (x4 / 60) / 4 * 4) x6 1 (1 + ((x4 / 240) - (x4 / 240) / 9 * 9))).bind fun y2 => f_X1_drawMonths_115 k_14 y2.2 x0 x3 x4 x5 else none
set_option maxRecDepth 20000 in
set_option maxHeartbeats 2000000 in
theorem e_X1_drawMonths_86 (k_14 : gi_H → Nat → Int32 → Int32 → Int32 → Option gi_H) (hk_14 : ∀ (g1 : Option Value) (g2 : Option Value) (g6 : Option Value) (h : gi_H) (x0 : Nat) (x3 : Int32) (x4 : Int32) (x5 : Int32) (r : gi_H), k_14 h x0 x3 x4 x5 = some r → gi_Ev M_X1_drawMonths 14 [some (.ref x0), g1, g2, some (.int x3), some (.int x4), some (.int x5), g6] [] h (none, r)) (g1 : Option Value) (g2 : Option Value) (h : gi_H) (x0 : Nat) (x3 : Int32) (x4 : Int32) (x5 : Int32) (x6 : Int32) (r : gi_H) (hf : f_X1_drawMonths_86 k_14 h x0 x3 x4 x5 x6 = some r) : gi_Ev M_X1_drawMonths 86 [some (.ref x0), g1, g2, some (.int x3), some (.int x4), some (.int x5), some (.int x6)] [] h (none, r) := by
  unfold f_X1_drawMonths_86 at hf
  refine gi_EvN 1 (pc' := 87) (lv' := [some (.ref x0), g1, g2, some (.int x3), some (.int x4), some (.int x5), some (.int x6)]) (st' := [.ref x0]) (h' := h) rfl ?_
  obtain ⟨y1, qy1, hf⟩ := gi_bind hf
  refine gi_EvF rfl (gi_fR_inv qy1) ?_
  refine gi_EvN 2 (pc' := 94) (lv' := [some (.ref x0), g1, g2, some (.int x3), some (.int x4), some (.int x5), some (.int x6)]) (st' := [.int 60, .int x4, .ref y1]) (h' := h) rfl ?_
  refine gi_EvDi rfl (by decide) ?_
  refine gi_EvN 1 (pc' := 96) (lv' := [some (.ref x0), g1, g2, some (.int x3), some (.int x4), some (.int x5), some (.int x6)]) (st' := [.int 4, .int (x4 / 60), .ref y1]) (h' := h) rfl ?_
  refine gi_EvRi rfl (by decide) ?_
  refine gi_EvN 5 (pc' := 106) (lv' := [some (.ref x0), g1, g2, some (.int x3), some (.int x4), some (.int x5), some (.int x6)]) (st' := [.int 240, .int x4, .int 1, .int 1, .int x6, .int ((x4 / 60) - (x4 / 60) / 4 * 4), .ref y1]) (h' := h) rfl ?_
  refine gi_EvDi rfl (by decide) ?_
  refine gi_EvN 1 (pc' := 109) (lv' := [some (.ref x0), g1, g2, some (.int x3), some (.int x4), some (.int x5), some (.int x6)]) (st' := [.int 9, .int (x4 / 240), .int 1, .int 1, .int x6, .int ((x4 / 60) - (x4 / 60) / 4 * 4), .ref y1]) (h' := h) rfl ?_
  refine gi_EvRi rfl (by decide) ?_
  refine gi_EvN 1 (pc' := 111) (lv' := [some (.ref x0), g1, g2, some (.int x3), some (.int x4), some (.int x5), some (.int x6)]) (st' := [.int (1 + ((x4 / 240) - (x4 / 240) / 9 * 9)), .int 1, .int x6, .int ((x4 / 60) - (x4 / 60) / 4 * 4), .ref y1]) (h' := h) rfl ?_
  by_cases c3 : gi_is h y1 0 = true
  rotate_left
  · rw [if_neg c3] at hf; cases hf
  rw [if_pos c3] at hf
  obtain ⟨y2, qy2, hf⟩ := gi_bind hf
  refine gi_EvCV rfl rfl c3 rfl rfl (e_X0_buyPolicy h _ _ _ _ _ _ qy2) ?_
  show gi_Ev M_X1_drawMonths 114 [some (.ref x0), g1, g2, some (.int x3), some (.int x4), some (.int x5), some (.int x6)] [.int y2.1] y2.2 _
  refine gi_EvN 1 (pc' := 115) (lv' := [some (.ref x0), g1, g2, some (.int x3), some (.int x4), some (.int x5), some (.int x6)]) (st' := []) (h' := y2.2) rfl ?_
  exact e_X1_drawMonths_115 _ hk_14 _ _ _ y2.2 _ _ _ _ _ hf
def f_X1_drawMonths_14 : Nat → gi_H → Nat → Int32 → Int32 → Int32 → Option gi_H
  | 0, _, _, _, _, _ => none
  | n + 1, h, x0, x3, x4, x5 => if x3 ≤ x5 then some h
  else (gi_fR h x0 1 0).bind fun y2 => if gi_is h y2 0 = true then (f_X0_hasEnded h y2 ((((75 * x4) + 74) - ((75 * x4) + 74) / 65537 * 65537) - (((75 * x4) + 74) - ((75 * x4) + 74) / 65537 * 65537) / 6 * 6)).bind fun y3 => if y3 = 0 then (gi_fR h x0 1 0).bind fun y6 => (gi_fR h y6 0 6).bind fun y7 => (gi_ai h y7 0 ((((75 * x4) + 74) - ((75 * x4) + 74) / 65537 * 65537) - (((75 * x4) + 74) - ((75 * x4) + 74) / 65537 * 65537) / 6 * 6)).bind fun y8 => if y8 ≤ (((((75 * x4) + 74) - ((75 * x4) + 74) / 65537 * 65537) / 6) - ((((75 * x4) + 74) - ((75 * x4) + 74) / 65537 * 65537) / 6) / 10 * 10) then f_X1_drawMonths_86 (f_X1_drawMonths_14 n) h x0 x3 (((75 * x4) + 74) - ((75 * x4) + 74) / 65537 * 65537) x5 ((((75 * x4) + 74) - ((75 * x4) + 74) / 65537 * 65537) - (((75 * x4) + 74) - ((75 * x4) + 74) / 65537 * 65537) / 6 * 6)
  else (gi_fR h x0 1 0).bind fun y10 => if gi_is h y10 0 = true then (f_X0_endLife h y10 ((((75 * x4) + 74) - ((75 * x4) + 74) / 65537 * 65537) - (((75 * x4) + 74) - ((75 * x4) + 74) / 65537 * 65537) / 6 * 6)).bind fun y11 => f_X1_drawMonths_115 (f_X1_drawMonths_14 n) y11.2 x0 x3 (((75 * x4) + 74) - ((75 * x4) + 74) / 65537 * 65537) x5 else none
  else f_X1_drawMonths_86 (f_X1_drawMonths_14 n) h x0 x3 (((75 * x4) + 74) - ((75 * x4) + 74) / 65537 * 65537) x5 ((((75 * x4) + 74) - ((75 * x4) + 74) / 65537 * 65537) - (((75 * x4) + 74) - ((75 * x4) + 74) / 65537 * 65537) / 6 * 6) else none
set_option maxRecDepth 20000 in
set_option maxHeartbeats 2000000 in
theorem e_X1_drawMonths_14 : ∀ (n : Nat) (g1 : Option Value) (g2 : Option Value) (g6 : Option Value) (h : gi_H) (x0 : Nat) (x3 : Int32) (x4 : Int32) (x5 : Int32) (r : gi_H), f_X1_drawMonths_14 n h x0 x3 x4 x5 = some r → gi_Ev M_X1_drawMonths 14 [some (.ref x0), g1, g2, some (.int x3), some (.int x4), some (.int x5), g6] [] h (none, r) := by
  intro n
  induction n with
  | zero =>
    intro g1 g2 g6 h x0 x3 x4 x5 r hf
    unfold f_X1_drawMonths_14 at hf
    cases hf
  | succ n ih =>
    intro g1 g2 g6 h x0 x3 x4 x5 r hf
    unfold f_X1_drawMonths_14 at hf
    refine gi_EvN 2 (pc' := 17) (lv' := [some (.ref x0), g1, g2, some (.int x3), some (.int x4), some (.int x5), g6]) (st' := [.int x3, .int x5]) (h' := h) rfl ?_
    refine gi_Ev_ige rfl (fun c1 => ?_) (fun c1 => ?_)
    · rw [if_pos c1] at hf
      cases hf
      exact gi_EvR rfl rfl
    · rw [if_neg c1] at hf
      refine gi_EvN 6 (pc' := 30) (lv' := [some (.ref x0), g1, g2, some (.int x3), some (.int x4), some (.int x5), g6]) (st' := [.int 65537, .int ((75 * x4) + 74)]) (h' := h) rfl ?_
      refine gi_EvRi rfl (by decide) ?_
      refine gi_EvN 3 (pc' := 37) (lv' := [some (.ref x0), g1, g2, some (.int x3), some (.int (((75 * x4) + 74) - ((75 * x4) + 74) / 65537 * 65537)), some (.int x5), g6]) (st' := [.int 6, .int (((75 * x4) + 74) - ((75 * x4) + 74) / 65537 * 65537)]) (h' := h) rfl ?_
      refine gi_EvRi rfl (by decide) ?_
      refine gi_EvN 2 (pc' := 41) (lv' := [some (.ref x0), g1, g2, some (.int x3), some (.int (((75 * x4) + 74) - ((75 * x4) + 74) / 65537 * 65537)), some (.int x5), some (.int ((((75 * x4) + 74) - ((75 * x4) + 74) / 65537 * 65537) - (((75 * x4) + 74) - ((75 * x4) + 74) / 65537 * 65537) / 6 * 6))]) (st' := [.ref x0]) (h' := h) rfl ?_
      obtain ⟨y2, qy2, hf⟩ := gi_bind hf
      refine gi_EvF rfl (gi_fR_inv qy2) ?_
      refine gi_EvN 1 (pc' := 46) (lv' := [some (.ref x0), g1, g2, some (.int x3), some (.int (((75 * x4) + 74) - ((75 * x4) + 74) / 65537 * 65537)), some (.int x5), some (.int ((((75 * x4) + 74) - ((75 * x4) + 74) / 65537 * 65537) - (((75 * x4) + 74) - ((75 * x4) + 74) / 65537 * 65537) / 6 * 6))]) (st' := [.int ((((75 * x4) + 74) - ((75 * x4) + 74) / 65537 * 65537) - (((75 * x4) + 74) - ((75 * x4) + 74) / 65537 * 65537) / 6 * 6), .ref y2]) (h' := h) rfl ?_
      by_cases c4 : gi_is h y2 0 = true
      rotate_left
      · rw [if_neg c4] at hf; cases hf
      rw [if_pos c4] at hf
      obtain ⟨y3, qy3, hf⟩ := gi_bind hf
      refine gi_EvCV rfl rfl c4 rfl rfl (e_X0_hasEnded h _ _ _ qy3) ?_
      show gi_Ev M_X1_drawMonths 49 [some (.ref x0), g1, g2, some (.int x3), some (.int (((75 * x4) + 74) - ((75 * x4) + 74) / 65537 * 65537)), some (.int x5), some (.int ((((75 * x4) + 74) - ((75 * x4) + 74) / 65537 * 65537) - (((75 * x4) + 74) - ((75 * x4) + 74) / 65537 * 65537) / 6 * 6))] [.int y3] h _
      refine gi_Ev_ne rfl (fun c5 => ?_) (fun c5 => ?_)
      · rw [if_pos c5] at hf
        refine gi_EvN 2 (pc' := 56) (lv' := [some (.ref x0), g1, g2, some (.int x3), some (.int (((75 * x4) + 74) - ((75 * x4) + 74) / 65537 * 65537)), some (.int x5), some (.int ((((75 * x4) + 74) - ((75 * x4) + 74) / 65537 * 65537) - (((75 * x4) + 74) - ((75 * x4) + 74) / 65537 * 65537) / 6 * 6))]) (st' := [.int 6, .int (((75 * x4) + 74) - ((75 * x4) + 74) / 65537 * 65537)]) (h' := h) rfl ?_
        refine gi_EvDi rfl (by decide) ?_
        refine gi_EvN 1 (pc' := 59) (lv' := [some (.ref x0), g1, g2, some (.int x3), some (.int (((75 * x4) + 74) - ((75 * x4) + 74) / 65537 * 65537)), some (.int x5), some (.int ((((75 * x4) + 74) - ((75 * x4) + 74) / 65537 * 65537) - (((75 * x4) + 74) - ((75 * x4) + 74) / 65537 * 65537) / 6 * 6))]) (st' := [.int 10, .int ((((75 * x4) + 74) - ((75 * x4) + 74) / 65537 * 65537) / 6)]) (h' := h) rfl ?_
        refine gi_EvRi rfl (by decide) ?_
        refine gi_EvN 1 (pc' := 61) (lv' := [some (.ref x0), g1, g2, some (.int x3), some (.int (((75 * x4) + 74) - ((75 * x4) + 74) / 65537 * 65537)), some (.int x5), some (.int ((((75 * x4) + 74) - ((75 * x4) + 74) / 65537 * 65537) - (((75 * x4) + 74) - ((75 * x4) + 74) / 65537 * 65537) / 6 * 6))]) (st' := [.ref x0, .int (((((75 * x4) + 74) - ((75 * x4) + 74) / 65537 * 65537) / 6) - ((((75 * x4) + 74) - ((75 * x4) + 74) / 65537 * 65537) / 6) / 10 * 10)]) (h' := h) rfl ?_
        obtain ⟨y6, qy6, hf⟩ := gi_bind hf
        refine gi_EvF rfl (gi_fR_inv qy6) ?_
        obtain ⟨y7, qy7, hf⟩ := gi_bind hf
        refine gi_EvF rfl (gi_fR_inv qy7) ?_
        refine gi_EvN 1 (pc' := 69) (lv' := [some (.ref x0), g1, g2, some (.int x3), some (.int (((75 * x4) + 74) - ((75 * x4) + 74) / 65537 * 65537)), some (.int x5), some (.int ((((75 * x4) + 74) - ((75 * x4) + 74) / 65537 * 65537) - (((75 * x4) + 74) - ((75 * x4) + 74) / 65537 * 65537) / 6 * 6))]) (st' := [.int ((((75 * x4) + 74) - ((75 * x4) + 74) / 65537 * 65537) - (((75 * x4) + 74) - ((75 * x4) + 74) / 65537 * 65537) / 6 * 6), .ref y7, .int (((((75 * x4) + 74) - ((75 * x4) + 74) / 65537 * 65537) / 6) - ((((75 * x4) + 74) - ((75 * x4) + 74) / 65537 * 65537) / 6) / 10 * 10)]) (h' := h) rfl ?_
        obtain ⟨y8, qy8, hf⟩ := gi_bind hf
        refine gi_EvAi rfl qy8 ?_
        refine gi_Ev_ige rfl (fun c9 => ?_) (fun c9 => ?_)
        · rw [if_pos c9] at hf
          exact e_X1_drawMonths_86 _ ih _ _ h _ _ _ _ _ _ hf
        · rw [if_neg c9] at hf
          refine gi_EvN 1 (pc' := 74) (lv' := [some (.ref x0), g1, g2, some (.int x3), some (.int (((75 * x4) + 74) - ((75 * x4) + 74) / 65537 * 65537)), some (.int x5), some (.int ((((75 * x4) + 74) - ((75 * x4) + 74) / 65537 * 65537) - (((75 * x4) + 74) - ((75 * x4) + 74) / 65537 * 65537) / 6 * 6))]) (st' := [.ref x0]) (h' := h) rfl ?_
          obtain ⟨y10, qy10, hf⟩ := gi_bind hf
          refine gi_EvF rfl (gi_fR_inv qy10) ?_
          refine gi_EvN 1 (pc' := 79) (lv' := [some (.ref x0), g1, g2, some (.int x3), some (.int (((75 * x4) + 74) - ((75 * x4) + 74) / 65537 * 65537)), some (.int x5), some (.int ((((75 * x4) + 74) - ((75 * x4) + 74) / 65537 * 65537) - (((75 * x4) + 74) - ((75 * x4) + 74) / 65537 * 65537) / 6 * 6))]) (st' := [.int ((((75 * x4) + 74) - ((75 * x4) + 74) / 65537 * 65537) - (((75 * x4) + 74) - ((75 * x4) + 74) / 65537 * 65537) / 6 * 6), .ref y10]) (h' := h) rfl ?_
          by_cases c12 : gi_is h y10 0 = true
          rotate_left
          · rw [if_neg c12] at hf; cases hf
          rw [if_pos c12] at hf
          obtain ⟨y11, qy11, hf⟩ := gi_bind hf
          refine gi_EvCV rfl rfl c12 rfl rfl (e_X0_endLife h _ _ _ qy11) ?_
          show gi_Ev M_X1_drawMonths 82 [some (.ref x0), g1, g2, some (.int x3), some (.int (((75 * x4) + 74) - ((75 * x4) + 74) / 65537 * 65537)), some (.int x5), some (.int ((((75 * x4) + 74) - ((75 * x4) + 74) / 65537 * 65537) - (((75 * x4) + 74) - ((75 * x4) + 74) / 65537 * 65537) / 6 * 6))] [.int y11.1] y11.2 _
          refine gi_EvN 2 (pc' := 115) (lv' := [some (.ref x0), g1, g2, some (.int x3), some (.int (((75 * x4) + 74) - ((75 * x4) + 74) / 65537 * 65537)), some (.int x5), some (.int ((((75 * x4) + 74) - ((75 * x4) + 74) / 65537 * 65537) - (((75 * x4) + 74) - ((75 * x4) + 74) / 65537 * 65537) / 6 * 6))]) (st' := []) (h' := y11.2) rfl ?_
          exact e_X1_drawMonths_115 _ ih _ _ _ y11.2 _ _ _ _ _ hf
      · rw [if_neg c5] at hf
        exact e_X1_drawMonths_86 _ ih _ _ h _ _ _ _ _ _ hf
def f_X1_drawMonths (h : gi_H) (x0 : Nat) (x1 : Nat) (x2 : Int32) (x3 : Int32) : Option gi_H :=
  (gi_fR h x0 1 0).bind fun y1 => if gi_is h y1 0 = true then (f_X0_copyFrom h y1 x1).bind fun h2 => f_X1_drawMonths_14 gi_F h2 x0 x3 x2 0 else none
set_option maxRecDepth 20000 in
set_option maxHeartbeats 2000000 in
theorem e_X1_drawMonths (h : gi_H) (x0 : Nat) (x1 : Nat) (x2 : Int32) (x3 : Int32) (r : gi_H) (hf : f_X1_drawMonths h x0 x1 x2 x3 = some r) : gi_Ev M_X1_drawMonths 0 [some (.ref x0), some (.ref x1), some (.int x2), some (.int x3), none, none, none] [] h (none, r) := by
  unfold f_X1_drawMonths at hf
  refine gi_EvN 1 (pc' := 1) (lv' := [some (.ref x0), some (.ref x1), some (.int x2), some (.int x3), none, none, none]) (st' := [.ref x0]) (h' := h) rfl ?_
  obtain ⟨y1, qy1, hf⟩ := gi_bind hf
  refine gi_EvF rfl (gi_fR_inv qy1) ?_
  refine gi_EvN 1 (pc' := 5) (lv' := [some (.ref x0), some (.ref x1), some (.int x2), some (.int x3), none, none, none]) (st' := [.ref x1, .ref y1]) (h' := h) rfl ?_
  by_cases c3 : gi_is h y1 0 = true
  rotate_left
  · rw [if_neg c3] at hf; cases hf
  rw [if_pos c3] at hf
  obtain ⟨h2, qh2, hf⟩ := gi_bind hf
  refine gi_EvCV rfl rfl c3 rfl rfl (e_X0_copyFrom h _ _ _ qh2) ?_
  show gi_Ev M_X1_drawMonths 8 [some (.ref x0), some (.ref x1), some (.int x2), some (.int x3), none, none, none] [] h2 _
  refine gi_EvN 4 (pc' := 14) (lv' := [some (.ref x0), some (.ref x1), some (.int x2), some (.int x3), some (.int x2), some (.int 0), none]) (st' := []) (h' := h2) rfl ?_
  exact e_X1_drawMonths_14 gi_F _ _ _ h2 _ _ _ _ _ hf
