/-! X5_wipe AdmiralGuinea.wipe()I -/
def f_X5_wipe (h : gi_H) (x0 : Nat) : Option (Int32 × gi_H) :=
  (gi_fR h x0 5 2).bind fun y1 => (gi_fI h y1 3 0).bind fun y2 => (gi_fR h x0 5 2).bind fun y3 => (gi_fp h y3 3 0 (.int 0)).bind fun h4 => some (y2, h4)
set_option maxRecDepth 20000 in
set_option maxHeartbeats 2000000 in
theorem e_X5_wipe (h : gi_H) (x0 : Nat) (r : (Int32 × gi_H)) (hf : f_X5_wipe h x0 = some r) : gi_Ev M_X5_wipe 0 [some (.ref x0), none] [] h (some (.int r.1), r.2) := by
  unfold f_X5_wipe at hf
  refine gi_EvN 1 (pc' := 1) (lv' := [some (.ref x0), none]) (st' := [.ref x0]) (h' := h) rfl ?_
  obtain ⟨y1, qy1, hf⟩ := gi_bind hf
  refine gi_EvF rfl (gi_fR_inv qy1) ?_
  obtain ⟨y2, qy2, hf⟩ := gi_bind hf
  refine gi_EvF rfl (gi_fI_inv qy2) ?_
  refine gi_EvN 2 (pc' := 9) (lv' := [some (.ref x0), some (.int y2)]) (st' := [.ref x0]) (h' := h) rfl ?_
  obtain ⟨y3, qy3, hf⟩ := gi_bind hf
  refine gi_EvF rfl (gi_fR_inv qy3) ?_
  refine gi_EvN 1 (pc' := 13) (lv' := [some (.ref x0), some (.int y2)]) (st' := [.int 0, .ref y3]) (h' := h) rfl ?_
  obtain ⟨h4, qh4, hf⟩ := gi_bind hf
  refine gi_EvFp rfl rfl qh4 ?_
  refine gi_EvN 1 (pc' := 17) (lv' := [some (.ref x0), some (.int y2)]) (st' := [.int y2]) (h' := h4) rfl ?_
  cases hf
  exact gi_EvR rfl rfl
/-! X5_fault AdmiralGuinea.fault()I -/
def f_X5_fault (h : gi_H) (x0 : Nat) : Option Int32 :=
  (gi_fR h x0 5 2).bind fun y1 => if gi_is h y1 3 = true then (f_X3_firstFault h y1).bind fun y2 => some (y2) else none
set_option maxRecDepth 20000 in
set_option maxHeartbeats 2000000 in
theorem e_X5_fault (h : gi_H) (x0 : Nat) (r : Int32) (hf : f_X5_fault h x0 = some r) : gi_Ev M_X5_fault 0 [some (.ref x0)] [] h (some (.int r), h) := by
  unfold f_X5_fault at hf
  refine gi_EvN 1 (pc' := 1) (lv' := [some (.ref x0)]) (st' := [.ref x0]) (h' := h) rfl ?_
  obtain ⟨y1, qy1, hf⟩ := gi_bind hf
  refine gi_EvF rfl (gi_fR_inv qy1) ?_
  by_cases c3 : gi_is h y1 3 = true
  rotate_left
  · rw [if_neg c3] at hf; cases hf
  rw [if_pos c3] at hf
  obtain ⟨y2, qy2, hf⟩ := gi_bind hf
  refine gi_EvCV rfl rfl c3 rfl rfl (e_X3_firstFault h _ _ qy2) ?_
  show gi_Ev M_X5_fault 7 [some (.ref x0)] [.int y2] h _
  cases hf
  exact gi_EvR rfl rfl
/-! X5_judge AdmiralGuinea.judge(I)I -/
def f_X5_judge (h : gi_H) (x0 : Nat) (x1 : Int32) : Option (Int32 × gi_H) :=
  (f_X5_isWithin x1 0 1).bind fun y1 => if y1 = 0 then some ((-2), h)
  else (gi_fR h x0 5 2).bind fun y3 => if gi_is h y3 3 = true then (f_X3_firstFault h y3).bind fun y4 => if y4 = (-6) then (gi_fR h x0 5 1).bind fun y7 => (gi_fR h x0 5 0).bind fun y8 => (gi_fR h x0 5 2).bind fun y9 => if gi_is h y7 1 = true then (f_X1_readPad h y7 y8 y9).bind fun y10 => if x1 = 0 then (gi_fR y10.2 x0 5 1).bind fun y13 => (gi_fI y10.2 y13 1 2).bind fun y14 => some (y14, y10.2)
  else (gi_fR y10.2 x0 5 1).bind fun y15 => (gi_fI y10.2 y15 1 3).bind fun y16 => some (y16, y10.2) else none
  else some ((-5), h) else none
set_option maxRecDepth 20000 in
set_option maxHeartbeats 2000000 in
theorem e_X5_judge (h : gi_H) (x0 : Nat) (x1 : Int32) (r : (Int32 × gi_H)) (hf : f_X5_judge h x0 x1 = some r) : gi_Ev M_X5_judge 0 [some (.ref x0), some (.int x1)] [] h (some (.int r.1), r.2) := by
  unfold f_X5_judge at hf
  refine gi_EvN 3 (pc' := 3) (lv' := [some (.ref x0), some (.int x1)]) (st' := [.int 1, .int 0, .int x1]) (h' := h) rfl ?_
  obtain ⟨y1, qy1, hf⟩ := gi_bind hf
  refine gi_EvCS rfl rfl rfl rfl rfl (e_X5_isWithin h _ _ _ _ qy1) ?_
  show gi_Ev M_X5_judge 6 [some (.ref x0), some (.int x1)] [.int y1] h _
  refine gi_Ev_ne rfl (fun c2 => ?_) (fun c2 => ?_)
  · rw [if_pos c2] at hf
    refine gi_EvN 1 (pc' := 11) (lv' := [some (.ref x0), some (.int x1)]) (st' := [.int (-2)]) (h' := h) rfl ?_
    cases hf
    exact gi_EvR rfl rfl
  · rw [if_neg c2] at hf
    refine gi_EvN 1 (pc' := 13) (lv' := [some (.ref x0), some (.int x1)]) (st' := [.ref x0]) (h' := h) rfl ?_
    obtain ⟨y3, qy3, hf⟩ := gi_bind hf
    refine gi_EvF rfl (gi_fR_inv qy3) ?_
    by_cases c5 : gi_is h y3 3 = true
    rotate_left
    · rw [if_neg c5] at hf; cases hf
    rw [if_pos c5] at hf
    obtain ⟨y4, qy4, hf⟩ := gi_bind hf
    refine gi_EvCV rfl rfl c5 rfl rfl (e_X3_firstFault h _ _ qy4) ?_
    show gi_Ev M_X5_judge 19 [some (.ref x0), some (.int x1)] [.int y4] h _
    refine gi_EvN 1 (pc' := 21) (lv' := [some (.ref x0), some (.int x1)]) (st' := [.int (-6), .int y4]) (h' := h) rfl ?_
    refine gi_Ev_ieq rfl (fun c6 => ?_) (fun c6 => ?_)
    · rw [if_pos c6] at hf
      refine gi_EvN 1 (pc' := 28) (lv' := [some (.ref x0), some (.int x1)]) (st' := [.ref x0]) (h' := h) rfl ?_
      obtain ⟨y7, qy7, hf⟩ := gi_bind hf
      refine gi_EvF rfl (gi_fR_inv qy7) ?_
      refine gi_EvN 1 (pc' := 32) (lv' := [some (.ref x0), some (.int x1)]) (st' := [.ref x0, .ref y7]) (h' := h) rfl ?_
      obtain ⟨y8, qy8, hf⟩ := gi_bind hf
      refine gi_EvF rfl (gi_fR_inv qy8) ?_
      refine gi_EvN 1 (pc' := 36) (lv' := [some (.ref x0), some (.int x1)]) (st' := [.ref x0, .ref y8, .ref y7]) (h' := h) rfl ?_
      obtain ⟨y9, qy9, hf⟩ := gi_bind hf
      refine gi_EvF rfl (gi_fR_inv qy9) ?_
      by_cases c11 : gi_is h y7 1 = true
      rotate_left
      · rw [if_neg c11] at hf; cases hf
      rw [if_pos c11] at hf
      obtain ⟨y10, qy10, hf⟩ := gi_bind hf
      refine gi_EvCV rfl rfl c11 rfl rfl (e_X1_readPad h _ _ _ _ qy10) ?_
      show gi_Ev M_X5_judge 42 [some (.ref x0), some (.int x1)] [.int y10.1] y10.2 _
      refine gi_EvN 2 (pc' := 44) (lv' := [some (.ref x0), some (.int x1)]) (st' := [.int x1]) (h' := y10.2) rfl ?_
      refine gi_Ev_ne rfl (fun c12 => ?_) (fun c12 => ?_)
      · rw [if_pos c12] at hf
        refine gi_EvN 1 (pc' := 48) (lv' := [some (.ref x0), some (.int x1)]) (st' := [.ref x0]) (h' := y10.2) rfl ?_
        obtain ⟨y13, qy13, hf⟩ := gi_bind hf
        refine gi_EvF rfl (gi_fR_inv qy13) ?_
        obtain ⟨y14, qy14, hf⟩ := gi_bind hf
        refine gi_EvF rfl (gi_fI_inv qy14) ?_
        refine gi_EvN 1 (pc' := 64) (lv' := [some (.ref x0), some (.int x1)]) (st' := [.int y14]) (h' := y10.2) rfl ?_
        cases hf
        exact gi_EvR rfl rfl
      · rw [if_neg c12] at hf
        refine gi_EvN 1 (pc' := 58) (lv' := [some (.ref x0), some (.int x1)]) (st' := [.ref x0]) (h' := y10.2) rfl ?_
        obtain ⟨y15, qy15, hf⟩ := gi_bind hf
        refine gi_EvF rfl (gi_fR_inv qy15) ?_
        obtain ⟨y16, qy16, hf⟩ := gi_bind hf
        refine gi_EvF rfl (gi_fI_inv qy16) ?_
        cases hf
        exact gi_EvR rfl rfl
    · rw [if_neg c6] at hf
      refine gi_EvN 1 (pc' := 26) (lv' := [some (.ref x0), some (.int x1)]) (st' := [.int (-5)]) (h' := h) rfl ?_
      cases hf
      exact gi_EvR rfl rfl
/-! X5_done AdmiralGuinea.done()I -/
def f_X5_done (h : gi_H) (x0 : Nat) : Option (Int32 × gi_H) :=
  (gi_fR h x0 5 2).bind fun y1 => if gi_is h y1 3 = true then (f_X3_firstFault h y1).bind fun y2 => if y2 = (-6) then (gi_fR h x0 5 1).bind fun y5 => (gi_fR h x0 5 0).bind fun y6 => (gi_fR h x0 5 2).bind fun y7 => if gi_is h y5 1 = true then (f_X1_readPad h y5 y6 y7).bind fun y8 => if y8.1 = 0 then some ((-5), y8.2)
  else (gi_fR y8.2 x0 5 0).bind fun y11 => (gi_fR y8.2 x0 5 1).bind fun y12 => (gi_fR y8.2 y12 1 0).bind fun y13 => if gi_is y8.2 y11 0 = true then (f_X0_copyFrom y8.2 y11 y13).bind fun h14 => (gi_fR h14 x0 5 2).bind fun y16 => (gi_fp h14 y16 3 0 (.int 0)).bind fun h17 => (gi_fR h17 x0 5 1).bind fun y18 => (gi_fI h17 y18 1 1).bind fun y19 => some (y19, h17) else none else none
  else some ((-5), h) else none
set_option maxRecDepth 20000 in
set_option maxHeartbeats 2000000 in
theorem e_X5_done (h : gi_H) (x0 : Nat) (r : (Int32 × gi_H)) (hf : f_X5_done h x0 = some r) : gi_Ev M_X5_done 0 [some (.ref x0)] [] h (some (.int r.1), r.2) := by
  unfold f_X5_done at hf
  refine gi_EvN 1 (pc' := 1) (lv' := [some (.ref x0)]) (st' := [.ref x0]) (h' := h) rfl ?_
  obtain ⟨y1, qy1, hf⟩ := gi_bind hf
  refine gi_EvF rfl (gi_fR_inv qy1) ?_
  by_cases c3 : gi_is h y1 3 = true
  rotate_left
  · rw [if_neg c3] at hf; cases hf
  rw [if_pos c3] at hf
  obtain ⟨y2, qy2, hf⟩ := gi_bind hf
  refine gi_EvCV rfl rfl c3 rfl rfl (e_X3_firstFault h _ _ qy2) ?_
  show gi_Ev M_X5_done 7 [some (.ref x0)] [.int y2] h _
  refine gi_EvN 1 (pc' := 9) (lv' := [some (.ref x0)]) (st' := [.int (-6), .int y2]) (h' := h) rfl ?_
  refine gi_Ev_ine rfl (fun c4 => ?_) (fun c4 => ?_)
  · rw [if_pos c4] at hf
    refine gi_EvN 1 (pc' := 13) (lv' := [some (.ref x0)]) (st' := [.ref x0]) (h' := h) rfl ?_
    obtain ⟨y5, qy5, hf⟩ := gi_bind hf
    refine gi_EvF rfl (gi_fR_inv qy5) ?_
    refine gi_EvN 1 (pc' := 17) (lv' := [some (.ref x0)]) (st' := [.ref x0, .ref y5]) (h' := h) rfl ?_
    obtain ⟨y6, qy6, hf⟩ := gi_bind hf
    refine gi_EvF rfl (gi_fR_inv qy6) ?_
    refine gi_EvN 1 (pc' := 21) (lv' := [some (.ref x0)]) (st' := [.ref x0, .ref y6, .ref y5]) (h' := h) rfl ?_
    obtain ⟨y7, qy7, hf⟩ := gi_bind hf
    refine gi_EvF rfl (gi_fR_inv qy7) ?_
    by_cases c9 : gi_is h y5 1 = true
    rotate_left
    · rw [if_neg c9] at hf; cases hf
    rw [if_pos c9] at hf
    obtain ⟨y8, qy8, hf⟩ := gi_bind hf
    refine gi_EvCV rfl rfl c9 rfl rfl (e_X1_readPad h _ _ _ _ qy8) ?_
    show gi_Ev M_X5_done 27 [some (.ref x0)] [.int y8.1] y8.2 _
    refine gi_Ev_ne rfl (fun c10 => ?_) (fun c10 => ?_)
    · rw [if_pos c10] at hf
      refine gi_EvN 1 (pc' := 32) (lv' := [some (.ref x0)]) (st' := [.int (-5)]) (h' := y8.2) rfl ?_
      cases hf
      exact gi_EvR rfl rfl
    · rw [if_neg c10] at hf
      refine gi_EvN 1 (pc' := 34) (lv' := [some (.ref x0)]) (st' := [.ref x0]) (h' := y8.2) rfl ?_
      obtain ⟨y11, qy11, hf⟩ := gi_bind hf
      refine gi_EvF rfl (gi_fR_inv qy11) ?_
      refine gi_EvN 1 (pc' := 38) (lv' := [some (.ref x0)]) (st' := [.ref x0, .ref y11]) (h' := y8.2) rfl ?_
      obtain ⟨y12, qy12, hf⟩ := gi_bind hf
      refine gi_EvF rfl (gi_fR_inv qy12) ?_
      obtain ⟨y13, qy13, hf⟩ := gi_bind hf
      refine gi_EvF rfl (gi_fR_inv qy13) ?_
      by_cases c15 : gi_is y8.2 y11 0 = true
      rotate_left
      · rw [if_neg c15] at hf; cases hf
      rw [if_pos c15] at hf
      obtain ⟨h14, qh14, hf⟩ := gi_bind hf
      refine gi_EvCV rfl rfl c15 rfl rfl (e_X0_copyFrom y8.2 _ _ _ qh14) ?_
      show gi_Ev M_X5_done 47 [some (.ref x0)] [] h14 _
      refine gi_EvN 1 (pc' := 48) (lv' := [some (.ref x0)]) (st' := [.ref x0]) (h' := h14) rfl ?_
      obtain ⟨y16, qy16, hf⟩ := gi_bind hf
      refine gi_EvF rfl (gi_fR_inv qy16) ?_
      refine gi_EvN 1 (pc' := 52) (lv' := [some (.ref x0)]) (st' := [.int 0, .ref y16]) (h' := h14) rfl ?_
      obtain ⟨h17, qh17, hf⟩ := gi_bind hf
      refine gi_EvFp rfl rfl qh17 ?_
      refine gi_EvN 1 (pc' := 56) (lv' := [some (.ref x0)]) (st' := [.ref x0]) (h' := h17) rfl ?_
      obtain ⟨y18, qy18, hf⟩ := gi_bind hf
      refine gi_EvF rfl (gi_fR_inv qy18) ?_
      obtain ⟨y19, qy19, hf⟩ := gi_bind hf
      refine gi_EvF rfl (gi_fI_inv qy19) ?_
      cases hf
      exact gi_EvR rfl rfl
  · rw [if_neg c4] at hf
    refine gi_EvN 1 (pc' := 32) (lv' := [some (.ref x0)]) (st' := [.int (-5)]) (h' := h) rfl ?_
    cases hf
    exact gi_EvR rfl rfl
/-! X5_behind AdmiralGuinea.behind(I)I -/
def f_X5_behind (h : gi_H) (x0 : Nat) (x1 : Int32) : Option (Int32 × gi_H) :=
  (f_X5_isWithin x1 0 7).bind fun y1 => if y1 = 0 then some ((-2), h)
  else (gi_fR h x0 5 2).bind fun y3 => if gi_is h y3 3 = true then (f_X3_firstFault h y3).bind fun y4 => if y4 = (-6) then (gi_fR h x0 5 1).bind fun y7 => (gi_fR h x0 5 0).bind fun y8 => (gi_fR h x0 5 2).bind fun y9 => if gi_is h y7 1 = true then (f_X1_readPad h y7 y8 y9).bind fun y10 => if y10.1 = 0 then some ((-5), y10.2)
  else (f_X5_isBuyer x1).bind fun y13 => if y13 = 0 then if x1 = 4 then (gi_fR y10.2 x0 5 1).bind fun y16 => (gi_fR y10.2 y16 1 0).bind fun y17 => (gi_fI y10.2 y17 0 1).bind fun y18 => some (y18, y10.2)
  else if x1 = 5 then (gi_fR y10.2 x0 5 1).bind fun y20 => (gi_fR y10.2 y20 1 0).bind fun y21 => (gi_fI y10.2 y21 0 0).bind fun y22 => some (y22, y10.2)
  else if x1 = 6 then (gi_fR y10.2 x0 5 1).bind fun y24 => (gi_fI y10.2 y24 1 4).bind fun y25 => some (y25, y10.2)
  else (gi_fR y10.2 x0 5 1).bind fun y26 => (gi_fI y10.2 y26 1 5).bind fun y27 => some (y27, y10.2)
  else (gi_fR y10.2 x0 5 1).bind fun y28 => (gi_fR y10.2 y28 1 0).bind fun y29 => (gi_fR y10.2 y29 0 7).bind fun y30 => (gi_ai y10.2 y30 0 x1).bind fun y31 => some (y31, y10.2) else none
  else some ((-5), h) else none
set_option maxRecDepth 20000 in
set_option maxHeartbeats 2000000 in
theorem e_X5_behind (h : gi_H) (x0 : Nat) (x1 : Int32) (r : (Int32 × gi_H)) (hf : f_X5_behind h x0 x1 = some r) : gi_Ev M_X5_behind 0 [some (.ref x0), some (.int x1)] [] h (some (.int r.1), r.2) := by
  unfold f_X5_behind at hf
  refine gi_EvN 3 (pc' := 4) (lv' := [some (.ref x0), some (.int x1)]) (st' := [.int 7, .int 0, .int x1]) (h' := h) rfl ?_
  obtain ⟨y1, qy1, hf⟩ := gi_bind hf
  refine gi_EvCS rfl rfl rfl rfl rfl (e_X5_isWithin h _ _ _ _ qy1) ?_
  show gi_Ev M_X5_behind 7 [some (.ref x0), some (.int x1)] [.int y1] h _
  refine gi_Ev_ne rfl (fun c2 => ?_) (fun c2 => ?_)
  · rw [if_pos c2] at hf
    refine gi_EvN 1 (pc' := 12) (lv' := [some (.ref x0), some (.int x1)]) (st' := [.int (-2)]) (h' := h) rfl ?_
    cases hf
    exact gi_EvR rfl rfl
  · rw [if_neg c2] at hf
    refine gi_EvN 1 (pc' := 14) (lv' := [some (.ref x0), some (.int x1)]) (st' := [.ref x0]) (h' := h) rfl ?_
    obtain ⟨y3, qy3, hf⟩ := gi_bind hf
    refine gi_EvF rfl (gi_fR_inv qy3) ?_
    by_cases c5 : gi_is h y3 3 = true
    rotate_left
    · rw [if_neg c5] at hf; cases hf
    rw [if_pos c5] at hf
    obtain ⟨y4, qy4, hf⟩ := gi_bind hf
    refine gi_EvCV rfl rfl c5 rfl rfl (e_X3_firstFault h _ _ qy4) ?_
    show gi_Ev M_X5_behind 20 [some (.ref x0), some (.int x1)] [.int y4] h _
    refine gi_EvN 1 (pc' := 22) (lv' := [some (.ref x0), some (.int x1)]) (st' := [.int (-6), .int y4]) (h' := h) rfl ?_
    refine gi_Ev_ine rfl (fun c6 => ?_) (fun c6 => ?_)
    · rw [if_pos c6] at hf
      refine gi_EvN 1 (pc' := 26) (lv' := [some (.ref x0), some (.int x1)]) (st' := [.ref x0]) (h' := h) rfl ?_
      obtain ⟨y7, qy7, hf⟩ := gi_bind hf
      refine gi_EvF rfl (gi_fR_inv qy7) ?_
      refine gi_EvN 1 (pc' := 30) (lv' := [some (.ref x0), some (.int x1)]) (st' := [.ref x0, .ref y7]) (h' := h) rfl ?_
      obtain ⟨y8, qy8, hf⟩ := gi_bind hf
      refine gi_EvF rfl (gi_fR_inv qy8) ?_
      refine gi_EvN 1 (pc' := 34) (lv' := [some (.ref x0), some (.int x1)]) (st' := [.ref x0, .ref y8, .ref y7]) (h' := h) rfl ?_
      obtain ⟨y9, qy9, hf⟩ := gi_bind hf
      refine gi_EvF rfl (gi_fR_inv qy9) ?_
      by_cases c11 : gi_is h y7 1 = true
      rotate_left
      · rw [if_neg c11] at hf; cases hf
      rw [if_pos c11] at hf
      obtain ⟨y10, qy10, hf⟩ := gi_bind hf
      refine gi_EvCV rfl rfl c11 rfl rfl (e_X1_readPad h _ _ _ _ qy10) ?_
      show gi_Ev M_X5_behind 40 [some (.ref x0), some (.int x1)] [.int y10.1] y10.2 _
      refine gi_Ev_ne rfl (fun c12 => ?_) (fun c12 => ?_)
      · rw [if_pos c12] at hf
        refine gi_EvN 1 (pc' := 45) (lv' := [some (.ref x0), some (.int x1)]) (st' := [.int (-5)]) (h' := y10.2) rfl ?_
        cases hf
        exact gi_EvR rfl rfl
      · rw [if_neg c12] at hf
        refine gi_EvN 1 (pc' := 47) (lv' := [some (.ref x0), some (.int x1)]) (st' := [.int x1]) (h' := y10.2) rfl ?_
        obtain ⟨y13, qy13, hf⟩ := gi_bind hf
        refine gi_EvCS rfl rfl rfl rfl rfl (e_X5_isBuyer y10.2 _ _ qy13) ?_
        show gi_Ev M_X5_behind 50 [some (.ref x0), some (.int x1)] [.int y13] y10.2 _
        refine gi_Ev_eq rfl (fun c14 => ?_) (fun c14 => ?_)
        · rw [if_pos c14] at hf
          refine gi_EvN 1 (pc' := 67) (lv' := [some (.ref x0), some (.int x1)]) (st' := [.int x1]) (h' := y10.2) rfl ?_
          by_cases c15 : x1 = 4
          · rw [if_pos c15] at hf
            refine gi_EvTs (t := 92) rfl (gi_sw_at c15 (by decide)) ?_
            refine gi_EvN 1 (pc' := 93) (lv' := [some (.ref x0), some (.int x1)]) (st' := [.ref x0]) (h' := y10.2) rfl ?_
            obtain ⟨y16, qy16, hf⟩ := gi_bind hf
            refine gi_EvF rfl (gi_fR_inv qy16) ?_
            obtain ⟨y17, qy17, hf⟩ := gi_bind hf
            refine gi_EvF rfl (gi_fR_inv qy17) ?_
            obtain ⟨y18, qy18, hf⟩ := gi_bind hf
            refine gi_EvF rfl (gi_fI_inv qy18) ?_
            cases hf
            exact gi_EvR rfl rfl
          rw [if_neg c15] at hf
          by_cases c19 : x1 = 5
          · rw [if_pos c19] at hf
            refine gi_EvTs (t := 103) rfl (gi_sw_at c19 (by decide)) ?_
            refine gi_EvN 1 (pc' := 104) (lv' := [some (.ref x0), some (.int x1)]) (st' := [.ref x0]) (h' := y10.2) rfl ?_
            obtain ⟨y20, qy20, hf⟩ := gi_bind hf
            refine gi_EvF rfl (gi_fR_inv qy20) ?_
            obtain ⟨y21, qy21, hf⟩ := gi_bind hf
            refine gi_EvF rfl (gi_fR_inv qy21) ?_
            obtain ⟨y22, qy22, hf⟩ := gi_bind hf
            refine gi_EvF rfl (gi_fI_inv qy22) ?_
            cases hf
            exact gi_EvR rfl rfl
          rw [if_neg c19] at hf
          by_cases c23 : x1 = 6
          · rw [if_pos c23] at hf
            refine gi_EvTs (t := 114) rfl (gi_sw_at c23 (by decide)) ?_
            refine gi_EvN 1 (pc' := 115) (lv' := [some (.ref x0), some (.int x1)]) (st' := [.ref x0]) (h' := y10.2) rfl ?_
            obtain ⟨y24, qy24, hf⟩ := gi_bind hf
            refine gi_EvF rfl (gi_fR_inv qy24) ?_
            obtain ⟨y25, qy25, hf⟩ := gi_bind hf
            refine gi_EvF rfl (gi_fI_inv qy25) ?_
            cases hf
            exact gi_EvR rfl rfl
          rw [if_neg c23] at hf
          have ic15 := lv_neT c15 (show (4 : Int32).toInt = 4 by decide)
          have ic19 := lv_neT c19 (show (5 : Int32).toInt = 5 by decide)
          have ic23 := lv_neT c23 (show (6 : Int32).toInt = 6 by decide)
          refine gi_EvTs (t := 122) rfl (gi_sw_out (by omega) (by decide)) ?_
          refine gi_EvN 1 (pc' := 123) (lv' := [some (.ref x0), some (.int x1)]) (st' := [.ref x0]) (h' := y10.2) rfl ?_
          obtain ⟨y26, qy26, hf⟩ := gi_bind hf
          refine gi_EvF rfl (gi_fR_inv qy26) ?_
          obtain ⟨y27, qy27, hf⟩ := gi_bind hf
          refine gi_EvF rfl (gi_fI_inv qy27) ?_
          cases hf
          exact gi_EvR rfl rfl
        · rw [if_neg c14] at hf
          refine gi_EvN 1 (pc' := 54) (lv' := [some (.ref x0), some (.int x1)]) (st' := [.ref x0]) (h' := y10.2) rfl ?_
          obtain ⟨y28, qy28, hf⟩ := gi_bind hf
          refine gi_EvF rfl (gi_fR_inv qy28) ?_
          obtain ⟨y29, qy29, hf⟩ := gi_bind hf
          refine gi_EvF rfl (gi_fR_inv qy29) ?_
          obtain ⟨y30, qy30, hf⟩ := gi_bind hf
          refine gi_EvF rfl (gi_fR_inv qy30) ?_
          refine gi_EvN 1 (pc' := 64) (lv' := [some (.ref x0), some (.int x1)]) (st' := [.int x1, .ref y30]) (h' := y10.2) rfl ?_
          obtain ⟨y31, qy31, hf⟩ := gi_bind hf
          refine gi_EvAi rfl qy31 ?_
          cases hf
          exact gi_EvR rfl rfl
    · rw [if_neg c6] at hf
      refine gi_EvN 1 (pc' := 45) (lv' := [some (.ref x0), some (.int x1)]) (st' := [.int (-5)]) (h' := h) rfl ?_
      cases hf
      exact gi_EvR rfl rfl
/-! X5_policy AdmiralGuinea.policy(II)I -/
def f_X5_policy (h : gi_H) (x0 : Nat) (x1 : Int32) (x2 : Int32) : Option Int32 :=
  (gi_fR h x0 5 0).bind fun y1 => if gi_is h y1 0 = true then (f_X0_stands h y1 x1).bind fun y2 => if y2 = 0 then some ((-1))
  else if x2 = 0 then (gi_fR h x0 5 0).bind fun y6 => (gi_fR h y6 0 8).bind fun y7 => (gi_ai h y7 0 x1).bind fun y8 => some (y8)
  else if x2 = 1 then (gi_fR h x0 5 0).bind fun y10 => (gi_fR h y10 0 9).bind fun y11 => (gi_ai h y11 0 x1).bind fun y12 => some (y12)
  else if x2 = 2 then (gi_fR h x0 5 0).bind fun y14 => (gi_fR h y14 0 10).bind fun y15 => (gi_ai h y15 0 x1).bind fun y16 => some (y16)
  else if x2 = 3 then (gi_fR h x0 5 0).bind fun y18 => (gi_fR h y18 0 11).bind fun y19 => (gi_ai h y19 0 x1).bind fun y20 => some (y20)
  else some ((-2)) else none
set_option maxRecDepth 20000 in
set_option maxHeartbeats 2000000 in
theorem e_X5_policy (h : gi_H) (x0 : Nat) (x1 : Int32) (x2 : Int32) (r : Int32) (hf : f_X5_policy h x0 x1 x2 = some r) : gi_Ev M_X5_policy 0 [some (.ref x0), some (.int x1), some (.int x2)] [] h (some (.int r), h) := by
  unfold f_X5_policy at hf
  refine gi_EvN 1 (pc' := 1) (lv' := [some (.ref x0), some (.int x1), some (.int x2)]) (st' := [.ref x0]) (h' := h) rfl ?_
  obtain ⟨y1, qy1, hf⟩ := gi_bind hf
  refine gi_EvF rfl (gi_fR_inv qy1) ?_
  refine gi_EvN 1 (pc' := 5) (lv' := [some (.ref x0), some (.int x1), some (.int x2)]) (st' := [.int x1, .ref y1]) (h' := h) rfl ?_
  by_cases c3 : gi_is h y1 0 = true
  rotate_left
  · rw [if_neg c3] at hf; cases hf
  rw [if_pos c3] at hf
  obtain ⟨y2, qy2, hf⟩ := gi_bind hf
  refine gi_EvCV rfl rfl c3 rfl rfl (e_X0_stands h _ _ _ qy2) ?_
  show gi_Ev M_X5_policy 8 [some (.ref x0), some (.int x1), some (.int x2)] [.int y2] h _
  refine gi_Ev_ne rfl (fun c4 => ?_) (fun c4 => ?_)
  · rw [if_pos c4] at hf
    refine gi_EvN 1 (pc' := 12) (lv' := [some (.ref x0), some (.int x1), some (.int x2)]) (st' := [.int (-1)]) (h' := h) rfl ?_
    cases hf
    exact gi_EvR rfl rfl
  · rw [if_neg c4] at hf
    refine gi_EvN 1 (pc' := 14) (lv' := [some (.ref x0), some (.int x1), some (.int x2)]) (st' := [.int x2]) (h' := h) rfl ?_
    by_cases c5 : x2 = 0
    · rw [if_pos c5] at hf
      refine gi_EvTs (t := 44) rfl (gi_sw_at c5 (by decide)) ?_
      refine gi_EvN 1 (pc' := 45) (lv' := [some (.ref x0), some (.int x1), some (.int x2)]) (st' := [.ref x0]) (h' := h) rfl ?_
      obtain ⟨y6, qy6, hf⟩ := gi_bind hf
      refine gi_EvF rfl (gi_fR_inv qy6) ?_
      obtain ⟨y7, qy7, hf⟩ := gi_bind hf
      refine gi_EvF rfl (gi_fR_inv qy7) ?_
      refine gi_EvN 1 (pc' := 52) (lv' := [some (.ref x0), some (.int x1), some (.int x2)]) (st' := [.int x1, .ref y7]) (h' := h) rfl ?_
      obtain ⟨y8, qy8, hf⟩ := gi_bind hf
      refine gi_EvAi rfl qy8 ?_
      cases hf
      exact gi_EvR rfl rfl
    rw [if_neg c5] at hf
    by_cases c9 : x2 = 1
    · rw [if_pos c9] at hf
      refine gi_EvTs (t := 54) rfl (gi_sw_at c9 (by decide)) ?_
      refine gi_EvN 1 (pc' := 55) (lv' := [some (.ref x0), some (.int x1), some (.int x2)]) (st' := [.ref x0]) (h' := h) rfl ?_
      obtain ⟨y10, qy10, hf⟩ := gi_bind hf
      refine gi_EvF rfl (gi_fR_inv qy10) ?_
      obtain ⟨y11, qy11, hf⟩ := gi_bind hf
      refine gi_EvF rfl (gi_fR_inv qy11) ?_
      refine gi_EvN 1 (pc' := 62) (lv' := [some (.ref x0), some (.int x1), some (.int x2)]) (st' := [.int x1, .ref y11]) (h' := h) rfl ?_
      obtain ⟨y12, qy12, hf⟩ := gi_bind hf
      refine gi_EvAi rfl qy12 ?_
      cases hf
      exact gi_EvR rfl rfl
    rw [if_neg c9] at hf
    by_cases c13 : x2 = 2
    · rw [if_pos c13] at hf
      refine gi_EvTs (t := 64) rfl (gi_sw_at c13 (by decide)) ?_
      refine gi_EvN 1 (pc' := 65) (lv' := [some (.ref x0), some (.int x1), some (.int x2)]) (st' := [.ref x0]) (h' := h) rfl ?_
      obtain ⟨y14, qy14, hf⟩ := gi_bind hf
      refine gi_EvF rfl (gi_fR_inv qy14) ?_
      obtain ⟨y15, qy15, hf⟩ := gi_bind hf
      refine gi_EvF rfl (gi_fR_inv qy15) ?_
      refine gi_EvN 1 (pc' := 72) (lv' := [some (.ref x0), some (.int x1), some (.int x2)]) (st' := [.int x1, .ref y15]) (h' := h) rfl ?_
      obtain ⟨y16, qy16, hf⟩ := gi_bind hf
      refine gi_EvAi rfl qy16 ?_
      cases hf
      exact gi_EvR rfl rfl
    rw [if_neg c13] at hf
    by_cases c17 : x2 = 3
    · rw [if_pos c17] at hf
      refine gi_EvTs (t := 74) rfl (gi_sw_at c17 (by decide)) ?_
      refine gi_EvN 1 (pc' := 75) (lv' := [some (.ref x0), some (.int x1), some (.int x2)]) (st' := [.ref x0]) (h' := h) rfl ?_
      obtain ⟨y18, qy18, hf⟩ := gi_bind hf
      refine gi_EvF rfl (gi_fR_inv qy18) ?_
      obtain ⟨y19, qy19, hf⟩ := gi_bind hf
      refine gi_EvF rfl (gi_fR_inv qy19) ?_
      refine gi_EvN 1 (pc' := 82) (lv' := [some (.ref x0), some (.int x1), some (.int x2)]) (st' := [.int x1, .ref y19]) (h' := h) rfl ?_
      obtain ⟨y20, qy20, hf⟩ := gi_bind hf
      refine gi_EvAi rfl qy20 ?_
      cases hf
      exact gi_EvR rfl rfl
    rw [if_neg c17] at hf
    have ic5 := lv_neT c5 (show (0 : Int32).toInt = 0 by decide)
    have ic9 := lv_neT c9 (show (1 : Int32).toInt = 1 by decide)
    have ic13 := lv_neT c13 (show (2 : Int32).toInt = 2 by decide)
    have ic17 := lv_neT c17 (show (3 : Int32).toInt = 3 by decide)
    refine gi_EvTs (t := 84) rfl (gi_sw_out (by omega) (by decide)) ?_
    refine gi_EvN 1 (pc' := 86) (lv' := [some (.ref x0), some (.int x1), some (.int x2)]) (st' := [.int (-2)]) (h' := h) rfl ?_
    cases hf
    exact gi_EvR rfl rfl
/-! X5_price AdmiralGuinea.price(III)I -/
def f_X5_price (h : gi_H) (x0 : Nat) (x1 : Int32) (x2 : Int32) (x3 : Int32) : Option Int32 :=
  (f_X5_isLife x1).bind fun y1 => if y1 = 0 then some ((-1))
  else (f_X5_isWithin x2 1 9).bind fun y3 => if y3 = 0 then some ((-2))
  else (f_X5_isWithin x3 1 9).bind fun y5 => if y5 = 0 then some ((-2))
  else (gi_fR h x0 5 0).bind fun y7 => if gi_is h y7 0 = true then (f_X0_hasEnded h y7 x1).bind fun y8 => if y8 = 0 then (gi_fR h x0 5 0).bind fun y11 => (gi_fR h y11 0 6).bind fun y12 => (gi_ai h y12 0 x1).bind fun y13 => (f_X5_priceOf (10 * x2) y13 x3).bind fun y14 => some (y14)
  else some ((-3)) else none
set_option maxRecDepth 20000 in
set_option maxHeartbeats 2000000 in
theorem e_X5_price (h : gi_H) (x0 : Nat) (x1 : Int32) (x2 : Int32) (x3 : Int32) (r : Int32) (hf : f_X5_price h x0 x1 x2 x3 = some r) : gi_Ev M_X5_price 0 [some (.ref x0), some (.int x1), some (.int x2), some (.int x3)] [] h (some (.int r), h) := by
  unfold f_X5_price at hf
  refine gi_EvN 1 (pc' := 1) (lv' := [some (.ref x0), some (.int x1), some (.int x2), some (.int x3)]) (st' := [.int x1]) (h' := h) rfl ?_
  obtain ⟨y1, qy1, hf⟩ := gi_bind hf
  refine gi_EvCS rfl rfl rfl rfl rfl (e_X5_isLife h _ _ qy1) ?_
  show gi_Ev M_X5_price 4 [some (.ref x0), some (.int x1), some (.int x2), some (.int x3)] [.int y1] h _
  refine gi_Ev_ne rfl (fun c2 => ?_) (fun c2 => ?_)
  · rw [if_pos c2] at hf
    refine gi_EvN 1 (pc' := 8) (lv' := [some (.ref x0), some (.int x1), some (.int x2), some (.int x3)]) (st' := [.int (-1)]) (h' := h) rfl ?_
    cases hf
    exact gi_EvR rfl rfl
  · rw [if_neg c2] at hf
    refine gi_EvN 3 (pc' := 13) (lv' := [some (.ref x0), some (.int x1), some (.int x2), some (.int x3)]) (st' := [.int 9, .int 1, .int x2]) (h' := h) rfl ?_
    obtain ⟨y3, qy3, hf⟩ := gi_bind hf
    refine gi_EvCS rfl rfl rfl rfl rfl (e_X5_isWithin h _ _ _ _ qy3) ?_
    show gi_Ev M_X5_price 16 [some (.ref x0), some (.int x1), some (.int x2), some (.int x3)] [.int y3] h _
    refine gi_Ev_eq rfl (fun c4 => ?_) (fun c4 => ?_)
    · rw [if_pos c4] at hf
      refine gi_EvN 1 (pc' := 31) (lv' := [some (.ref x0), some (.int x1), some (.int x2), some (.int x3)]) (st' := [.int (-2)]) (h' := h) rfl ?_
      cases hf
      exact gi_EvR rfl rfl
    · rw [if_neg c4] at hf
      refine gi_EvN 3 (pc' := 23) (lv' := [some (.ref x0), some (.int x1), some (.int x2), some (.int x3)]) (st' := [.int 9, .int 1, .int x3]) (h' := h) rfl ?_
      obtain ⟨y5, qy5, hf⟩ := gi_bind hf
      refine gi_EvCS rfl rfl rfl rfl rfl (e_X5_isWithin h _ _ _ _ qy5) ?_
      show gi_Ev M_X5_price 26 [some (.ref x0), some (.int x1), some (.int x2), some (.int x3)] [.int y5] h _
      refine gi_Ev_ne rfl (fun c6 => ?_) (fun c6 => ?_)
      · rw [if_pos c6] at hf
        refine gi_EvN 1 (pc' := 31) (lv' := [some (.ref x0), some (.int x1), some (.int x2), some (.int x3)]) (st' := [.int (-2)]) (h' := h) rfl ?_
        cases hf
        exact gi_EvR rfl rfl
      · rw [if_neg c6] at hf
        refine gi_EvN 1 (pc' := 33) (lv' := [some (.ref x0), some (.int x1), some (.int x2), some (.int x3)]) (st' := [.ref x0]) (h' := h) rfl ?_
        obtain ⟨y7, qy7, hf⟩ := gi_bind hf
        refine gi_EvF rfl (gi_fR_inv qy7) ?_
        refine gi_EvN 1 (pc' := 37) (lv' := [some (.ref x0), some (.int x1), some (.int x2), some (.int x3)]) (st' := [.int x1, .ref y7]) (h' := h) rfl ?_
        by_cases c9 : gi_is h y7 0 = true
        rotate_left
        · rw [if_neg c9] at hf; cases hf
        rw [if_pos c9] at hf
        obtain ⟨y8, qy8, hf⟩ := gi_bind hf
        refine gi_EvCV rfl rfl c9 rfl rfl (e_X0_hasEnded h _ _ _ qy8) ?_
        show gi_Ev M_X5_price 40 [some (.ref x0), some (.int x1), some (.int x2), some (.int x3)] [.int y8] h _
        refine gi_Ev_eq rfl (fun c10 => ?_) (fun c10 => ?_)
        · rw [if_pos c10] at hf
          refine gi_EvN 4 (pc' := 51) (lv' := [some (.ref x0), some (.int x1), some (.int x2), some (.int x3)]) (st' := [.ref x0, .int (10 * x2)]) (h' := h) rfl ?_
          obtain ⟨y11, qy11, hf⟩ := gi_bind hf
          refine gi_EvF rfl (gi_fR_inv qy11) ?_
          obtain ⟨y12, qy12, hf⟩ := gi_bind hf
          refine gi_EvF rfl (gi_fR_inv qy12) ?_
          refine gi_EvN 1 (pc' := 58) (lv' := [some (.ref x0), some (.int x1), some (.int x2), some (.int x3)]) (st' := [.int x1, .ref y12, .int (10 * x2)]) (h' := h) rfl ?_
          obtain ⟨y13, qy13, hf⟩ := gi_bind hf
          refine gi_EvAi rfl qy13 ?_
          refine gi_EvN 1 (pc' := 60) (lv' := [some (.ref x0), some (.int x1), some (.int x2), some (.int x3)]) (st' := [.int x3, .int y13, .int (10 * x2)]) (h' := h) rfl ?_
          obtain ⟨y14, qy14, hf⟩ := gi_bind hf
          refine gi_EvCS rfl rfl rfl rfl rfl (e_X5_priceOf h _ _ _ _ qy14) ?_
          show gi_Ev M_X5_price 63 [some (.ref x0), some (.int x1), some (.int x2), some (.int x3)] [.int y14] h _
          cases hf
          exact gi_EvR rfl rfl
        · rw [if_neg c10] at hf
          refine gi_EvN 1 (pc' := 45) (lv' := [some (.ref x0), some (.int x1), some (.int x2), some (.int x3)]) (st' := [.int (-3)]) (h' := h) rfl ?_
          cases hf
          exact gi_EvR rfl rfl
/-! X5_isPart AdmiralGuinea.isPart(I)Z -/
def f_X5_isPart (x0 : Int32) : Option Int32 :=
  (f_X5_isWithin x0 0 1).bind fun y1 => if y1 = 0 ∨ y1 = 1 then some (y1) else none
set_option maxRecDepth 20000 in
set_option maxHeartbeats 2000000 in
theorem e_X5_isPart (h : gi_H) (x0 : Int32) (r : Int32) (hf : f_X5_isPart x0 = some r) : gi_Ev M_X5_isPart 0 [some (.int x0)] [] h (some (.int r), h) := by
  unfold f_X5_isPart at hf
  refine gi_EvN 3 (pc' := 3) (lv' := [some (.int x0)]) (st' := [.int 1, .int 0, .int x0]) (h' := h) rfl ?_
  obtain ⟨y1, qy1, hf⟩ := gi_bind hf
  refine gi_EvCS rfl rfl rfl rfl rfl (e_X5_isWithin h _ _ _ _ qy1) ?_
  show gi_Ev M_X5_isPart 6 [some (.int x0)] [.int y1] h _
  by_cases c2 : y1 = 0 ∨ y1 = 1
  rotate_left
  · rw [if_neg c2] at hf; cases hf
  rw [if_pos c2] at hf
  cases hf
  exact gi_EvRz rfl rfl c2
/-! X5_commonDivisor AdmiralGuinea.commonDivisor(JJ)J -/
def f_X5_commonDivisor_9 : Nat → Int64 → Int64 → Int32 → Option Int64
  | 0, _, _, _ => none
  | n + 1, x4, x6, x8 => if 200 ≤ x8 then some (x4)
  else if (lg_cmp x6 0) = 0 then some (x4)
  else if x6 = 0 then none else f_X5_commonDivisor_9 n x6 (x4 - x4 / x6 * x6) (x8 + 1)
set_option maxRecDepth 20000 in
set_option maxHeartbeats 2000000 in
theorem e_X5_commonDivisor_9 (h : gi_H) : ∀ (n : Nat) (g0 : Option Value) (g1 : Option Value) (g2 : Option Value) (g3 : Option Value) (g5 : Option Value) (g7 : Option Value) (g9 : Option Value) (g10 : Option Value) (x4 : Int64) (x6 : Int64) (x8 : Int32) (r : Int64), f_X5_commonDivisor_9 n x4 x6 x8 = some r → gi_Ev M_X5_commonDivisor 9 [g0, g1, g2, g3, some (.long x4), g5, some (.long x6), g7, some (.int x8), g9, g10] [] h (some (.long r), h) := by
  intro n
  induction n with
  | zero =>
    intro g0 g1 g2 g3 g5 g7 g9 g10 x4 x6 x8 r hf
    unfold f_X5_commonDivisor_9 at hf
    cases hf
  | succ n ih =>
    intro g0 g1 g2 g3 g5 g7 g9 g10 x4 x6 x8 r hf
    unfold f_X5_commonDivisor_9 at hf
    refine gi_EvN 2 (pc' := 14) (lv' := [g0, g1, g2, g3, some (.long x4), g5, some (.long x6), g7, some (.int x8), g9, g10]) (st' := [.int 200, .int x8]) (h' := h) rfl ?_
    refine gi_Ev_ige rfl (fun c1 => ?_) (fun c1 => ?_)
    · rw [if_pos c1] at hf
      refine gi_EvN 1 (pc' := 47) (lv' := [g0, g1, g2, g3, some (.long x4), g5, some (.long x6), g7, some (.int x8), g9, g10]) (st' := [.long x4]) (h' := h) rfl ?_
      cases hf
      exact gi_EvR rfl rfl
    · rw [if_neg c1] at hf
      refine gi_EvN 3 (pc' := 21) (lv' := [g0, g1, g2, g3, some (.long x4), g5, some (.long x6), g7, some (.int x8), g9, g10]) (st' := [.int (lg_cmp x6 0)]) (h' := h) rfl ?_
      refine gi_Ev_eq rfl (fun c2 => ?_) (fun c2 => ?_)
      · rw [if_pos c2] at hf
        refine gi_EvN 1 (pc' := 47) (lv' := [g0, g1, g2, g3, some (.long x4), g5, some (.long x6), g7, some (.int x8), g9, g10]) (st' := [.long x4]) (h' := h) rfl ?_
        cases hf
        exact gi_EvR rfl rfl
      · rw [if_neg c2] at hf
        refine gi_EvN 2 (pc' := 28) (lv' := [g0, g1, g2, g3, some (.long x4), g5, some (.long x6), g7, some (.int x8), g9, g10]) (st' := [.long x6, .long x4]) (h' := h) rfl ?_
        by_cases c3 : x6 = 0
        · rw [if_pos c3] at hf; cases hf
        rw [if_neg c3] at hf
        refine gi_EvRl rfl c3 ?_
        refine gi_EvN 7 (pc' := 9) (lv' := [g0, g1, g2, (gi_cl g3), some (.long x6), none, some (.long (x4 - x4 / x6 * x6)), none, some (.int (x8 + 1)), some (.long (x4 - x4 / x6 * x6)), none]) (st' := []) (h' := h) rfl ?_
        exact ih _ _ _ _ _ _ _ _  _  _  _ _ hf
def f_X5_commonDivisor (x0 : Int64) (x2 : Int64) : Option Int64 :=
  f_X5_commonDivisor_9 gi_F x0 x2 0
set_option maxRecDepth 20000 in
set_option maxHeartbeats 2000000 in
theorem e_X5_commonDivisor (h : gi_H) (x0 : Int64) (x2 : Int64) (r : Int64) (hf : f_X5_commonDivisor x0 x2 = some r) : gi_Ev M_X5_commonDivisor 0 [some (.long x0), none, some (.long x2), none, none, none, none, none, none, none, none] [] h (some (.long r), h) := by
  unfold f_X5_commonDivisor at hf
  refine gi_EvN 6 (pc' := 9) (lv' := [some (.long x0), none, some (.long x2), none, some (.long x0), none, some (.long x2), none, some (.int 0), none, none]) (st' := []) (h' := h) rfl ?_
  exact e_X5_commonDivisor_9 h gi_F _ _ _ _ _ _ _ _ _ _ _ _ hf
/-! X5_lowest AdmiralGuinea.lowest(JJI)J -/
def f_X5_lowest_35 (x5 : Int64) (t0 : Int64) : Option Int64 :=
  if x5 = 0 then none else some ((t0 / x5))
set_option maxRecDepth 20000 in
set_option maxHeartbeats 2000000 in
theorem e_X5_lowest_35 (h : gi_H) (g0 : Option Value) (g1 : Option Value) (g2 : Option Value) (g3 : Option Value) (g4 : Option Value) (g6 : Option Value) (x5 : Int64) (t0 : Int64) (r : Int64) (hf : f_X5_lowest_35 x5 t0 = some r) : gi_Ev M_X5_lowest 35 [g0, g1, g2, g3, g4, some (.long x5), g6] [.long t0] h (some (.long r), h) := by
  unfold f_X5_lowest_35 at hf
  refine gi_EvN 1 (pc' := 37) (lv' := [g0, g1, g2, g3, g4, some (.long x5), g6]) (st' := [.long x5, .long t0]) (h' := h) rfl ?_
  by_cases c1 : x5 = 0
  · rw [if_pos c1] at hf; cases hf
  rw [if_neg c1] at hf
  refine gi_EvDl rfl c1 ?_
  cases hf
  exact gi_EvR rfl rfl
def f_X5_lowest (x0 : Int64) (x2 : Int64) (x4 : Int32) : Option Int64 :=
  (f_X5_commonDivisor x0 x2).bind fun y1 => if 0 < (lg_cmp y1 0) then if x4 = 0 then f_X5_lowest_35 y1 x0
  else f_X5_lowest_35 y1 x2
  else if x4 = 0 then some (x0)
  else some (x2)
set_option maxRecDepth 20000 in
set_option maxHeartbeats 2000000 in
theorem e_X5_lowest (h : gi_H) (x0 : Int64) (x2 : Int64) (x4 : Int32) (r : Int64) (hf : f_X5_lowest x0 x2 x4 = some r) : gi_Ev M_X5_lowest 0 [some (.long x0), none, some (.long x2), none, some (.int x4), none, none] [] h (some (.long r), h) := by
  unfold f_X5_lowest at hf
  refine gi_EvN 2 (pc' := 2) (lv' := [some (.long x0), none, some (.long x2), none, some (.int x4), none, none]) (st' := [.long x2, .long x0]) (h' := h) rfl ?_
  obtain ⟨y1, qy1, hf⟩ := gi_bind hf
  refine gi_EvCS rfl rfl rfl rfl rfl (e_X5_commonDivisor h _ _ _ qy1) ?_
  show gi_Ev M_X5_lowest 5 [some (.long x0), none, some (.long x2), none, some (.int x4), none, none] [.long y1] h _
  refine gi_EvN 4 (pc' := 11) (lv' := [some (.long x0), none, some (.long x2), none, some (.int x4), some (.long y1), none]) (st' := [.int (lg_cmp y1 0)]) (h' := h) rfl ?_
  refine gi_Ev_gt rfl (fun c2 => ?_) (fun c2 => ?_)
  · rw [if_pos c2] at hf
    refine gi_EvN 1 (pc' := 27) (lv' := [some (.long x0), none, some (.long x2), none, some (.int x4), some (.long y1), none]) (st' := [.int x4]) (h' := h) rfl ?_
    refine gi_Ev_ne rfl (fun c3 => ?_) (fun c3 => ?_)
    · rw [if_pos c3] at hf
      refine gi_EvN 2 (pc' := 35) (lv' := [some (.long x0), none, some (.long x2), none, some (.int x4), some (.long y1), none]) (st' := [.long x0]) (h' := h) rfl ?_
      exact e_X5_lowest_35 h _ _ _ _ _ _ _ _ _ hf
    · rw [if_neg c3] at hf
      refine gi_EvN 1 (pc' := 35) (lv' := [some (.long x0), none, some (.long x2), none, some (.int x4), some (.long y1), none]) (st' := [.long x2]) (h' := h) rfl ?_
      exact e_X5_lowest_35 h _ _ _ _ _ _ _ _ _ hf
  · rw [if_neg c2] at hf
    refine gi_EvN 1 (pc' := 16) (lv' := [some (.long x0), none, some (.long x2), none, some (.int x4), some (.long y1), none]) (st' := [.int x4]) (h' := h) rfl ?_
    refine gi_Ev_ne rfl (fun c4 => ?_) (fun c4 => ?_)
    · rw [if_pos c4] at hf
      refine gi_EvN 2 (pc' := 24) (lv' := [some (.long x0), none, some (.long x2), none, some (.int x4), some (.long y1), none]) (st' := [.long x0]) (h' := h) rfl ?_
      cases hf
      exact gi_EvR rfl rfl
    · rw [if_neg c4] at hf
      refine gi_EvN 1 (pc' := 24) (lv' := [some (.long x0), none, some (.long x2), none, some (.int x4), some (.long y1), none]) (st' := [.long x2]) (h' := h) rfl ?_
      cases hf
      exact gi_EvR rfl rfl
/-! X5_chance AdmiralGuinea.chance(III)J -/
def f_X5_chance (h : gi_H) (x0 : Nat) (x1 : Int32) (x2 : Int32) (x3 : Int32) : Option Int64 :=
  (f_X5_isLife x1).bind fun y1 => if y1 = 0 then some ((-1000000000000000001))
  else (f_X5_isWithin x2 0 9).bind fun y3 => if y3 = 0 then some ((-1000000000000000002))
  else (f_X5_isPart x3).bind fun y5 => if y5 = 0 then some ((-1000000000000000002))
  else (gi_fR h x0 5 0).bind fun y7 => if gi_is h y7 0 = true then (f_X0_hasEnded h y7 x1).bind fun y8 => if y8 = 0 then (gi_fR h x0 5 0).bind fun y11 => (gi_fR h y11 0 6).bind fun y12 => (gi_ai h y12 0 x1).bind fun y13 => (f_X5_endings y13 x2).bind fun y14 => (f_X5_power 10 x2).bind fun y15 => (f_X5_lowest y14 y15 x3).bind fun y16 => some (y16)
  else some ((-1000000000000000003)) else none
set_option maxRecDepth 20000 in
set_option maxHeartbeats 2000000 in
theorem e_X5_chance (h : gi_H) (x0 : Nat) (x1 : Int32) (x2 : Int32) (x3 : Int32) (r : Int64) (hf : f_X5_chance h x0 x1 x2 x3 = some r) : gi_Ev M_X5_chance 0 [some (.ref x0), some (.int x1), some (.int x2), some (.int x3)] [] h (some (.long r), h) := by
  unfold f_X5_chance at hf
  refine gi_EvN 1 (pc' := 1) (lv' := [some (.ref x0), some (.int x1), some (.int x2), some (.int x3)]) (st' := [.int x1]) (h' := h) rfl ?_
  obtain ⟨y1, qy1, hf⟩ := gi_bind hf
  refine gi_EvCS rfl rfl rfl rfl rfl (e_X5_isLife h _ _ qy1) ?_
  show gi_Ev M_X5_chance 4 [some (.ref x0), some (.int x1), some (.int x2), some (.int x3)] [.int y1] h _
  refine gi_Ev_ne rfl (fun c2 => ?_) (fun c2 => ?_)
  · rw [if_pos c2] at hf
    refine gi_EvN 1 (pc' := 10) (lv' := [some (.ref x0), some (.int x1), some (.int x2), some (.int x3)]) (st' := [.long (-1000000000000000001)]) (h' := h) rfl ?_
    cases hf
    exact gi_EvR rfl rfl
  · rw [if_neg c2] at hf
    refine gi_EvN 3 (pc' := 15) (lv' := [some (.ref x0), some (.int x1), some (.int x2), some (.int x3)]) (st' := [.int 9, .int 0, .int x2]) (h' := h) rfl ?_
    obtain ⟨y3, qy3, hf⟩ := gi_bind hf
    refine gi_EvCS rfl rfl rfl rfl rfl (e_X5_isWithin h _ _ _ _ qy3) ?_
    show gi_Ev M_X5_chance 18 [some (.ref x0), some (.int x1), some (.int x2), some (.int x3)] [.int y3] h _
    refine gi_Ev_eq rfl (fun c4 => ?_) (fun c4 => ?_)
    · rw [if_pos c4] at hf
      refine gi_EvN 1 (pc' := 31) (lv' := [some (.ref x0), some (.int x1), some (.int x2), some (.int x3)]) (st' := [.long (-1000000000000000002)]) (h' := h) rfl ?_
      cases hf
      exact gi_EvR rfl rfl
    · rw [if_neg c4] at hf
      refine gi_EvN 1 (pc' := 22) (lv' := [some (.ref x0), some (.int x1), some (.int x2), some (.int x3)]) (st' := [.int x3]) (h' := h) rfl ?_
      obtain ⟨y5, qy5, hf⟩ := gi_bind hf
      refine gi_EvCS rfl rfl rfl rfl rfl (e_X5_isPart h _ _ qy5) ?_
      show gi_Ev M_X5_chance 25 [some (.ref x0), some (.int x1), some (.int x2), some (.int x3)] [.int y5] h _
      refine gi_Ev_ne rfl (fun c6 => ?_) (fun c6 => ?_)
      · rw [if_pos c6] at hf
        refine gi_EvN 1 (pc' := 31) (lv' := [some (.ref x0), some (.int x1), some (.int x2), some (.int x3)]) (st' := [.long (-1000000000000000002)]) (h' := h) rfl ?_
        cases hf
        exact gi_EvR rfl rfl
      · rw [if_neg c6] at hf
        refine gi_EvN 1 (pc' := 33) (lv' := [some (.ref x0), some (.int x1), some (.int x2), some (.int x3)]) (st' := [.ref x0]) (h' := h) rfl ?_
        obtain ⟨y7, qy7, hf⟩ := gi_bind hf
        refine gi_EvF rfl (gi_fR_inv qy7) ?_
        refine gi_EvN 1 (pc' := 37) (lv' := [some (.ref x0), some (.int x1), some (.int x2), some (.int x3)]) (st' := [.int x1, .ref y7]) (h' := h) rfl ?_
        by_cases c9 : gi_is h y7 0 = true
        rotate_left
        · rw [if_neg c9] at hf; cases hf
        rw [if_pos c9] at hf
        obtain ⟨y8, qy8, hf⟩ := gi_bind hf
        refine gi_EvCV rfl rfl c9 rfl rfl (e_X0_hasEnded h _ _ _ qy8) ?_
        show gi_Ev M_X5_chance 40 [some (.ref x0), some (.int x1), some (.int x2), some (.int x3)] [.int y8] h _
        refine gi_Ev_eq rfl (fun c10 => ?_) (fun c10 => ?_)
        · rw [if_pos c10] at hf
          refine gi_EvN 1 (pc' := 48) (lv' := [some (.ref x0), some (.int x1), some (.int x2), some (.int x3)]) (st' := [.ref x0]) (h' := h) rfl ?_
          obtain ⟨y11, qy11, hf⟩ := gi_bind hf
          refine gi_EvF rfl (gi_fR_inv qy11) ?_
          obtain ⟨y12, qy12, hf⟩ := gi_bind hf
          refine gi_EvF rfl (gi_fR_inv qy12) ?_
          refine gi_EvN 1 (pc' := 55) (lv' := [some (.ref x0), some (.int x1), some (.int x2), some (.int x3)]) (st' := [.int x1, .ref y12]) (h' := h) rfl ?_
          obtain ⟨y13, qy13, hf⟩ := gi_bind hf
          refine gi_EvAi rfl qy13 ?_
          refine gi_EvN 1 (pc' := 57) (lv' := [some (.ref x0), some (.int x1), some (.int x2), some (.int x3)]) (st' := [.int x2, .int y13]) (h' := h) rfl ?_
          obtain ⟨y14, qy14, hf⟩ := gi_bind hf
          refine gi_EvCS rfl rfl rfl rfl rfl (e_X5_endings h _ _ _ qy14) ?_
          show gi_Ev M_X5_chance 60 [some (.ref x0), some (.int x1), some (.int x2), some (.int x3)] [.long y14] h _
          refine gi_EvN 2 (pc' := 64) (lv' := [some (.ref x0), some (.int x1), some (.int x2), some (.int x3)]) (st' := [.int x2, .long 10, .long y14]) (h' := h) rfl ?_
          obtain ⟨y15, qy15, hf⟩ := gi_bind hf
          refine gi_EvCS rfl rfl rfl rfl rfl (e_X5_power h _ _ _ qy15) ?_
          show gi_Ev M_X5_chance 67 [some (.ref x0), some (.int x1), some (.int x2), some (.int x3)] [.long y15, .long y14] h _
          refine gi_EvN 1 (pc' := 68) (lv' := [some (.ref x0), some (.int x1), some (.int x2), some (.int x3)]) (st' := [.int x3, .long y15, .long y14]) (h' := h) rfl ?_
          obtain ⟨y16, qy16, hf⟩ := gi_bind hf
          refine gi_EvCS rfl rfl rfl rfl rfl (e_X5_lowest h _ _ _ _ qy16) ?_
          show gi_Ev M_X5_chance 71 [some (.ref x0), some (.int x1), some (.int x2), some (.int x3)] [.long y16] h _
          cases hf
          exact gi_EvR rfl rfl
        · rw [if_neg c10] at hf
          refine gi_EvN 1 (pc' := 46) (lv' := [some (.ref x0), some (.int x1), some (.int x2), some (.int x3)]) (st' := [.long (-1000000000000000003)]) (h' := h) rfl ?_
          cases hf
          exact gi_EvR rfl rfl
/-! X5_gains AdmiralGuinea.gains(II)I -/
def f_X5_gains (h : gi_H) (x0 : Nat) (x1 : Int32) (x2 : Int32) : Option Int32 :=
  (f_X5_isBuyer x1).bind fun y1 => if y1 = 0 then some ((-1))
  else (f_X5_isLife x2).bind fun y3 => if y3 = 0 then some ((-1))
  else (gi_fR h x0 5 0).bind fun y5 => if gi_is h y5 0 = true then (f_X0_gainsOf h y5 x1 x2).bind fun y6 => some (y6) else none
set_option maxRecDepth 20000 in
set_option maxHeartbeats 2000000 in
theorem e_X5_gains (h : gi_H) (x0 : Nat) (x1 : Int32) (x2 : Int32) (r : Int32) (hf : f_X5_gains h x0 x1 x2 = some r) : gi_Ev M_X5_gains 0 [some (.ref x0), some (.int x1), some (.int x2)] [] h (some (.int r), h) := by
  unfold f_X5_gains at hf
  refine gi_EvN 1 (pc' := 1) (lv' := [some (.ref x0), some (.int x1), some (.int x2)]) (st' := [.int x1]) (h' := h) rfl ?_
  obtain ⟨y1, qy1, hf⟩ := gi_bind hf
  refine gi_EvCS rfl rfl rfl rfl rfl (e_X5_isBuyer h _ _ qy1) ?_
  show gi_Ev M_X5_gains 4 [some (.ref x0), some (.int x1), some (.int x2)] [.int y1] h _
  refine gi_Ev_eq rfl (fun c2 => ?_) (fun c2 => ?_)
  · rw [if_pos c2] at hf
    refine gi_EvN 1 (pc' := 15) (lv' := [some (.ref x0), some (.int x1), some (.int x2)]) (st' := [.int (-1)]) (h' := h) rfl ?_
    cases hf
    exact gi_EvR rfl rfl
  · rw [if_neg c2] at hf
    refine gi_EvN 1 (pc' := 8) (lv' := [some (.ref x0), some (.int x1), some (.int x2)]) (st' := [.int x2]) (h' := h) rfl ?_
    obtain ⟨y3, qy3, hf⟩ := gi_bind hf
    refine gi_EvCS rfl rfl rfl rfl rfl (e_X5_isLife h _ _ qy3) ?_
    show gi_Ev M_X5_gains 11 [some (.ref x0), some (.int x1), some (.int x2)] [.int y3] h _
    refine gi_Ev_ne rfl (fun c4 => ?_) (fun c4 => ?_)
    · rw [if_pos c4] at hf
      refine gi_EvN 1 (pc' := 15) (lv' := [some (.ref x0), some (.int x1), some (.int x2)]) (st' := [.int (-1)]) (h' := h) rfl ?_
      cases hf
      exact gi_EvR rfl rfl
    · rw [if_neg c4] at hf
      refine gi_EvN 1 (pc' := 17) (lv' := [some (.ref x0), some (.int x1), some (.int x2)]) (st' := [.ref x0]) (h' := h) rfl ?_
      obtain ⟨y5, qy5, hf⟩ := gi_bind hf
      refine gi_EvF rfl (gi_fR_inv qy5) ?_
      refine gi_EvN 2 (pc' := 22) (lv' := [some (.ref x0), some (.int x1), some (.int x2)]) (st' := [.int x2, .int x1, .ref y5]) (h' := h) rfl ?_
      by_cases c7 : gi_is h y5 0 = true
      rotate_left
      · rw [if_neg c7] at hf; cases hf
      rw [if_pos c7] at hf
      obtain ⟨y6, qy6, hf⟩ := gi_bind hf
      refine gi_EvCV rfl rfl c7 rfl rfl (e_X0_gainsOf h _ _ _ _ qy6) ?_
      show gi_Ev M_X5_gains 25 [some (.ref x0), some (.int x1), some (.int x2)] [.int y6] h _
      cases hf
      exact gi_EvR rfl rfl
/-! X5_worth AdmiralGuinea.worth(I)I -/
def f_X5_worth_17 (h : gi_H) : Nat → Nat → Int32 → Int32 → Int32 → Int32 → Option Int32
  | 0, _, _, _, _, _ => none
  | n + 1, x0, x1, x2, x3, x4 => if 6 ≤ x4 then some (x2)
  else (gi_fR h x0 5 0).bind fun y2 => if gi_is h y2 0 = true then (f_X0_gainsOf h y2 x1 x4).bind fun y3 => if y3 ≤ x3 then f_X5_worth_17 h n x0 x1 x2 x3 (x4 + 1)
  else f_X5_worth_17 h n x0 x1 x4 y3 (x4 + 1) else none
set_option maxRecDepth 20000 in
set_option maxHeartbeats 2000000 in
theorem e_X5_worth_17 (h : gi_H) : ∀ (n : Nat) (g5 : Option Value) (x0 : Nat) (x1 : Int32) (x2 : Int32) (x3 : Int32) (x4 : Int32) (r : Int32), f_X5_worth_17 h n x0 x1 x2 x3 x4 = some r → gi_Ev M_X5_worth 17 [some (.ref x0), some (.int x1), some (.int x2), some (.int x3), some (.int x4), g5] [] h (some (.int r), h) := by
  intro n
  induction n with
  | zero =>
    intro g5 x0 x1 x2 x3 x4 r hf
    unfold f_X5_worth_17 at hf
    cases hf
  | succ n ih =>
    intro g5 x0 x1 x2 x3 x4 r hf
    unfold f_X5_worth_17 at hf
    refine gi_EvN 2 (pc' := 21) (lv' := [some (.ref x0), some (.int x1), some (.int x2), some (.int x3), some (.int x4), g5]) (st' := [.int 6, .int x4]) (h' := h) rfl ?_
    refine gi_Ev_ige rfl (fun c1 => ?_) (fun c1 => ?_)
    · rw [if_pos c1] at hf
      refine gi_EvN 1 (pc' := 55) (lv' := [some (.ref x0), some (.int x1), some (.int x2), some (.int x3), some (.int x4), g5]) (st' := [.int x2]) (h' := h) rfl ?_
      cases hf
      exact gi_EvR rfl rfl
    · rw [if_neg c1] at hf
      refine gi_EvN 1 (pc' := 25) (lv' := [some (.ref x0), some (.int x1), some (.int x2), some (.int x3), some (.int x4), g5]) (st' := [.ref x0]) (h' := h) rfl ?_
      obtain ⟨y2, qy2, hf⟩ := gi_bind hf
      refine gi_EvF rfl (gi_fR_inv qy2) ?_
      refine gi_EvN 2 (pc' := 31) (lv' := [some (.ref x0), some (.int x1), some (.int x2), some (.int x3), some (.int x4), g5]) (st' := [.int x4, .int x1, .ref y2]) (h' := h) rfl ?_
      by_cases c4 : gi_is h y2 0 = true
      rotate_left
      · rw [if_neg c4] at hf; cases hf
      rw [if_pos c4] at hf
      obtain ⟨y3, qy3, hf⟩ := gi_bind hf
      refine gi_EvCV rfl rfl c4 rfl rfl (e_X0_gainsOf h _ _ _ _ qy3) ?_
      show gi_Ev M_X5_worth 34 [some (.ref x0), some (.int x1), some (.int x2), some (.int x3), some (.int x4), g5] [.int y3] h _
      refine gi_EvN 3 (pc' := 39) (lv' := [some (.ref x0), some (.int x1), some (.int x2), some (.int x3), some (.int x4), some (.int y3)]) (st' := [.int x3, .int y3]) (h' := h) rfl ?_
      refine gi_Ev_ile rfl (fun c5 => ?_) (fun c5 => ?_)
      · rw [if_pos c5] at hf
        refine gi_EvN 2 (pc' := 17) (lv' := [some (.ref x0), some (.int x1), some (.int x2), some (.int x3), some (.int (x4 + 1)), some (.int y3)]) (st' := []) (h' := h) rfl ?_
        exact ih _  _  _  _  _  _ _ hf
      · rw [if_neg c5] at hf
        refine gi_EvN 6 (pc' := 17) (lv' := [some (.ref x0), some (.int x1), some (.int x4), some (.int y3), some (.int (x4 + 1)), some (.int y3)]) (st' := []) (h' := h) rfl ?_
        exact ih _  _  _  _  _  _ _ hf
def f_X5_worth (h : gi_H) (x0 : Nat) (x1 : Int32) : Option Int32 :=
  (f_X5_isBuyer x1).bind fun y1 => if y1 = 0 then some ((-1))
  else f_X5_worth_17 h gi_F x0 x1 (-6) 0 0
set_option maxRecDepth 20000 in
set_option maxHeartbeats 2000000 in
theorem e_X5_worth (h : gi_H) (x0 : Nat) (x1 : Int32) (r : Int32) (hf : f_X5_worth h x0 x1 = some r) : gi_Ev M_X5_worth 0 [some (.ref x0), some (.int x1), none, none, none, none] [] h (some (.int r), h) := by
  unfold f_X5_worth at hf
  refine gi_EvN 1 (pc' := 1) (lv' := [some (.ref x0), some (.int x1), none, none, none, none]) (st' := [.int x1]) (h' := h) rfl ?_
  obtain ⟨y1, qy1, hf⟩ := gi_bind hf
  refine gi_EvCS rfl rfl rfl rfl rfl (e_X5_isBuyer h _ _ qy1) ?_
  show gi_Ev M_X5_worth 4 [some (.ref x0), some (.int x1), none, none, none, none] [.int y1] h _
  refine gi_Ev_ne rfl (fun c2 => ?_) (fun c2 => ?_)
  · rw [if_pos c2] at hf
    refine gi_EvN 1 (pc' := 8) (lv' := [some (.ref x0), some (.int x1), none, none, none, none]) (st' := [.int (-1)]) (h' := h) rfl ?_
    cases hf
    exact gi_EvR rfl rfl
  · rw [if_neg c2] at hf
    refine gi_EvN 6 (pc' := 17) (lv' := [some (.ref x0), some (.int x1), some (.int (-6)), some (.int 0), some (.int 0), none]) (st' := []) (h' := h) rfl ?_
    exact e_X5_worth_17 h gi_F _ _ _ _ _ _ _ hf
/-! X5_refusalOfOffers AdmiralGuinea.refusalOfOffers(IIII)I -/
def f_X5_refusalOfOffers (x0 : Int32) (x1 : Int32) (x2 : Int32) (x3 : Int32) : Option Int32 :=
  (f_X5_isBuyer x0).bind fun y1 => if y1 = 0 then some ((-1))
  else (f_X5_isWithin x1 0 999999).bind fun y3 => if y3 = 0 then some ((-2))
  else (f_X5_isWithin x2 0 999999).bind fun y5 => if y5 = 0 then some ((-2))
  else (f_X5_isWithin x3 1 9).bind fun y7 => if y7 = 0 then some ((-2))
  else some (0)
set_option maxRecDepth 20000 in
set_option maxHeartbeats 2000000 in
theorem e_X5_refusalOfOffers (h : gi_H) (x0 : Int32) (x1 : Int32) (x2 : Int32) (x3 : Int32) (r : Int32) (hf : f_X5_refusalOfOffers x0 x1 x2 x3 = some r) : gi_Ev M_X5_refusalOfOffers 0 [some (.int x0), some (.int x1), some (.int x2), some (.int x3)] [] h (some (.int r), h) := by
  unfold f_X5_refusalOfOffers at hf
  refine gi_EvN 1 (pc' := 1) (lv' := [some (.int x0), some (.int x1), some (.int x2), some (.int x3)]) (st' := [.int x0]) (h' := h) rfl ?_
  obtain ⟨y1, qy1, hf⟩ := gi_bind hf
  refine gi_EvCS rfl rfl rfl rfl rfl (e_X5_isBuyer h _ _ qy1) ?_
  show gi_Ev M_X5_refusalOfOffers 4 [some (.int x0), some (.int x1), some (.int x2), some (.int x3)] [.int y1] h _
  refine gi_Ev_ne rfl (fun c2 => ?_) (fun c2 => ?_)
  · rw [if_pos c2] at hf
    refine gi_EvN 1 (pc' := 8) (lv' := [some (.int x0), some (.int x1), some (.int x2), some (.int x3)]) (st' := [.int (-1)]) (h' := h) rfl ?_
    cases hf
    exact gi_EvR rfl rfl
  · rw [if_neg c2] at hf
    refine gi_EvN 3 (pc' := 13) (lv' := [some (.int x0), some (.int x1), some (.int x2), some (.int x3)]) (st' := [.int 999999, .int 0, .int x1]) (h' := h) rfl ?_
    obtain ⟨y3, qy3, hf⟩ := gi_bind hf
    refine gi_EvCS rfl rfl rfl rfl rfl (e_X5_isWithin h _ _ _ _ qy3) ?_
    show gi_Ev M_X5_refusalOfOffers 16 [some (.int x0), some (.int x1), some (.int x2), some (.int x3)] [.int y3] h _
    refine gi_Ev_eq rfl (fun c4 => ?_) (fun c4 => ?_)
    · rw [if_pos c4] at hf
      refine gi_EvN 1 (pc' := 41) (lv' := [some (.int x0), some (.int x1), some (.int x2), some (.int x3)]) (st' := [.int (-2)]) (h' := h) rfl ?_
      cases hf
      exact gi_EvR rfl rfl
    · rw [if_neg c4] at hf
      refine gi_EvN 3 (pc' := 23) (lv' := [some (.int x0), some (.int x1), some (.int x2), some (.int x3)]) (st' := [.int 999999, .int 0, .int x2]) (h' := h) rfl ?_
      obtain ⟨y5, qy5, hf⟩ := gi_bind hf
      refine gi_EvCS rfl rfl rfl rfl rfl (e_X5_isWithin h _ _ _ _ qy5) ?_
      show gi_Ev M_X5_refusalOfOffers 26 [some (.int x0), some (.int x1), some (.int x2), some (.int x3)] [.int y5] h _
      refine gi_Ev_eq rfl (fun c6 => ?_) (fun c6 => ?_)
      · rw [if_pos c6] at hf
        refine gi_EvN 1 (pc' := 41) (lv' := [some (.int x0), some (.int x1), some (.int x2), some (.int x3)]) (st' := [.int (-2)]) (h' := h) rfl ?_
        cases hf
        exact gi_EvR rfl rfl
      · rw [if_neg c6] at hf
        refine gi_EvN 3 (pc' := 33) (lv' := [some (.int x0), some (.int x1), some (.int x2), some (.int x3)]) (st' := [.int 9, .int 1, .int x3]) (h' := h) rfl ?_
        obtain ⟨y7, qy7, hf⟩ := gi_bind hf
        refine gi_EvCS rfl rfl rfl rfl rfl (e_X5_isWithin h _ _ _ _ qy7) ?_
        show gi_Ev M_X5_refusalOfOffers 36 [some (.int x0), some (.int x1), some (.int x2), some (.int x3)] [.int y7] h _
        refine gi_Ev_ne rfl (fun c8 => ?_) (fun c8 => ?_)
        · rw [if_pos c8] at hf
          refine gi_EvN 1 (pc' := 41) (lv' := [some (.int x0), some (.int x1), some (.int x2), some (.int x3)]) (st' := [.int (-2)]) (h' := h) rfl ?_
          cases hf
          exact gi_EvR rfl rfl
        · rw [if_neg c8] at hf
          refine gi_EvN 1 (pc' := 43) (lv' := [some (.int x0), some (.int x1), some (.int x2), some (.int x3)]) (st' := [.int 0]) (h' := h) rfl ?_
          cases hf
          exact gi_EvR rfl rfl
/-! X5_best AdmiralGuinea.best(IIIII)J -/
def f_X5_best_27 (h : gi_H) (x0 : Nat) (x1 : Int32) (x2 : Int32) (x3 : Int32) (x4 : Int32) (x5 : Int32) (x6 : Int32) : Option (Int64 × gi_H) :=
  if x6 = 0 then (gi_fR h x0 5 3).bind fun y2 => (gi_fR h x0 5 0).bind fun y3 => if gi_is h y2 2 = true then (f_X2_lay h y2 y3 x2 x3 x4).bind fun h4 => (gi_fR h4 x0 5 3).bind fun y6 => (gi_fR h4 x0 5 3).bind fun y7 => (gi_fR h4 x0 5 0).bind fun y8 => (gi_fR h4 y8 0 7).bind fun y9 => (gi_ai h4 y9 0 x1).bind fun y10 => if gi_is h4 y7 2 = true then (f_X2_bestSet h4 y7 y10).bind fun y11 => if gi_is h4 y6 2 = true then (f_X2_surplusOf h4 y6 y11).bind fun y13 => (f_X5_power 10 x4).bind fun y15 => (f_X5_lowest y13 y15 x5).bind fun y16 => some (y16, h4) else none else none else none
  else some (((-1000000000000000000) + (Int32.toInt64 x6)), h)
set_option maxRecDepth 20000 in
set_option maxHeartbeats 2000000 in
theorem e_X5_best_27 (h : gi_H) (x0 : Nat) (x1 : Int32) (x2 : Int32) (x3 : Int32) (x4 : Int32) (x5 : Int32) (x6 : Int32) (r : (Int64 × gi_H)) (hf : f_X5_best_27 h x0 x1 x2 x3 x4 x5 x6 = some r) : gi_Ev M_X5_best 27 [some (.ref x0), some (.int x1), some (.int x2), some (.int x3), some (.int x4), some (.int x5), some (.int x6)] [] h (some (.long r.1), r.2) := by
  unfold f_X5_best_27 at hf
  refine gi_EvN 1 (pc' := 29) (lv' := [some (.ref x0), some (.int x1), some (.int x2), some (.int x3), some (.int x4), some (.int x5), some (.int x6)]) (st' := [.int x6]) (h' := h) rfl ?_
  refine gi_Ev_eq rfl (fun c1 => ?_) (fun c1 => ?_)
  · rw [if_pos c1] at hf
    refine gi_EvN 1 (pc' := 41) (lv' := [some (.ref x0), some (.int x1), some (.int x2), some (.int x3), some (.int x4), some (.int x5), some (.int x6)]) (st' := [.ref x0]) (h' := h) rfl ?_
    obtain ⟨y2, qy2, hf⟩ := gi_bind hf
    refine gi_EvF rfl (gi_fR_inv qy2) ?_
    refine gi_EvN 1 (pc' := 45) (lv' := [some (.ref x0), some (.int x1), some (.int x2), some (.int x3), some (.int x4), some (.int x5), some (.int x6)]) (st' := [.ref x0, .ref y2]) (h' := h) rfl ?_
    obtain ⟨y3, qy3, hf⟩ := gi_bind hf
    refine gi_EvF rfl (gi_fR_inv qy3) ?_
    refine gi_EvN 3 (pc' := 52) (lv' := [some (.ref x0), some (.int x1), some (.int x2), some (.int x3), some (.int x4), some (.int x5), some (.int x6)]) (st' := [.int x4, .int x3, .int x2, .ref y3, .ref y2]) (h' := h) rfl ?_
    by_cases c5 : gi_is h y2 2 = true
    rotate_left
    · rw [if_neg c5] at hf; cases hf
    rw [if_pos c5] at hf
    obtain ⟨h4, qh4, hf⟩ := gi_bind hf
    refine gi_EvCV rfl rfl c5 rfl rfl (e_X2_lay h _ _ _ _ _ _ qh4) ?_
    show gi_Ev M_X5_best 55 [some (.ref x0), some (.int x1), some (.int x2), some (.int x3), some (.int x4), some (.int x5), some (.int x6)] [] h4 _
    refine gi_EvN 1 (pc' := 56) (lv' := [some (.ref x0), some (.int x1), some (.int x2), some (.int x3), some (.int x4), some (.int x5), some (.int x6)]) (st' := [.ref x0]) (h' := h4) rfl ?_
    obtain ⟨y6, qy6, hf⟩ := gi_bind hf
    refine gi_EvF rfl (gi_fR_inv qy6) ?_
    refine gi_EvN 1 (pc' := 60) (lv' := [some (.ref x0), some (.int x1), some (.int x2), some (.int x3), some (.int x4), some (.int x5), some (.int x6)]) (st' := [.ref x0, .ref y6]) (h' := h4) rfl ?_
    obtain ⟨y7, qy7, hf⟩ := gi_bind hf
    refine gi_EvF rfl (gi_fR_inv qy7) ?_
    refine gi_EvN 1 (pc' := 64) (lv' := [some (.ref x0), some (.int x1), some (.int x2), some (.int x3), some (.int x4), some (.int x5), some (.int x6)]) (st' := [.ref x0, .ref y7, .ref y6]) (h' := h4) rfl ?_
    obtain ⟨y8, qy8, hf⟩ := gi_bind hf
    refine gi_EvF rfl (gi_fR_inv qy8) ?_
    obtain ⟨y9, qy9, hf⟩ := gi_bind hf
    refine gi_EvF rfl (gi_fR_inv qy9) ?_
    refine gi_EvN 1 (pc' := 71) (lv' := [some (.ref x0), some (.int x1), some (.int x2), some (.int x3), some (.int x4), some (.int x5), some (.int x6)]) (st' := [.int x1, .ref y9, .ref y7, .ref y6]) (h' := h4) rfl ?_
    obtain ⟨y10, qy10, hf⟩ := gi_bind hf
    refine gi_EvAi rfl qy10 ?_
    by_cases c12 : gi_is h4 y7 2 = true
    rotate_left
    · rw [if_neg c12] at hf; cases hf
    rw [if_pos c12] at hf
    obtain ⟨y11, qy11, hf⟩ := gi_bind hf
    refine gi_EvCV rfl rfl c12 rfl rfl (e_X2_bestSet h4 _ _ _ qy11) ?_
    show gi_Ev M_X5_best 75 [some (.ref x0), some (.int x1), some (.int x2), some (.int x3), some (.int x4), some (.int x5), some (.int x6)] [.int y11, .ref y6] h4 _
    by_cases c14 : gi_is h4 y6 2 = true
    rotate_left
    · rw [if_neg c14] at hf; cases hf
    rw [if_pos c14] at hf
    obtain ⟨y13, qy13, hf⟩ := gi_bind hf
    refine gi_EvCV rfl rfl c14 rfl rfl (e_X2_surplusOf h4 _ _ _ qy13) ?_
    show gi_Ev M_X5_best 78 [some (.ref x0), some (.int x1), some (.int x2), some (.int x3), some (.int x4), some (.int x5), some (.int x6)] [.long y13] h4 _
    refine gi_EvN 2 (pc' := 83) (lv' := [some (.ref x0), some (.int x1), some (.int x2), some (.int x3), some (.int x4), some (.int x5), some (.int x6)]) (st' := [.int x4, .long 10, .long y13]) (h' := h4) rfl ?_
    obtain ⟨y15, qy15, hf⟩ := gi_bind hf
    refine gi_EvCS rfl rfl rfl rfl rfl (e_X5_power h4 _ _ _ qy15) ?_
    show gi_Ev M_X5_best 86 [some (.ref x0), some (.int x1), some (.int x2), some (.int x3), some (.int x4), some (.int x5), some (.int x6)] [.long y15, .long y13] h4 _
    refine gi_EvN 1 (pc' := 88) (lv' := [some (.ref x0), some (.int x1), some (.int x2), some (.int x3), some (.int x4), some (.int x5), some (.int x6)]) (st' := [.int x5, .long y15, .long y13]) (h' := h4) rfl ?_
    obtain ⟨y16, qy16, hf⟩ := gi_bind hf
    refine gi_EvCS rfl rfl rfl rfl rfl (e_X5_lowest h4 _ _ _ _ qy16) ?_
    show gi_Ev M_X5_best 91 [some (.ref x0), some (.int x1), some (.int x2), some (.int x3), some (.int x4), some (.int x5), some (.int x6)] [.long y16] h4 _
    cases hf
    exact gi_EvR rfl rfl
  · rw [if_neg c1] at hf
    refine gi_EvN 4 (pc' := 39) (lv' := [some (.ref x0), some (.int x1), some (.int x2), some (.int x3), some (.int x4), some (.int x5), some (.int x6)]) (st' := [.long ((-1000000000000000000) + (Int32.toInt64 x6))]) (h' := h) rfl ?_
    cases hf
    exact gi_EvR rfl rfl
def f_X5_best (h : gi_H) (x0 : Nat) (x1 : Int32) (x2 : Int32) (x3 : Int32) (x4 : Int32) (x5 : Int32) : Option (Int64 × gi_H) :=
  (f_X5_refusalOfOffers x1 x2 x3 x4).bind fun y1 => if y1 = 0 then (f_X5_isPart x5).bind fun y3 => if y3 = 0 then f_X5_best_27 h x0 x1 x2 x3 x4 x5 (-2)
  else f_X5_best_27 h x0 x1 x2 x3 x4 x5 y1
  else f_X5_best_27 h x0 x1 x2 x3 x4 x5 y1
set_option maxRecDepth 20000 in
set_option maxHeartbeats 2000000 in
theorem e_X5_best (h : gi_H) (x0 : Nat) (x1 : Int32) (x2 : Int32) (x3 : Int32) (x4 : Int32) (x5 : Int32) (r : (Int64 × gi_H)) (hf : f_X5_best h x0 x1 x2 x3 x4 x5 = some r) : gi_Ev M_X5_best 0 [some (.ref x0), some (.int x1), some (.int x2), some (.int x3), some (.int x4), some (.int x5), none] [] h (some (.long r.1), r.2) := by
  unfold f_X5_best at hf
  refine gi_EvN 4 (pc' := 5) (lv' := [some (.ref x0), some (.int x1), some (.int x2), some (.int x3), some (.int x4), some (.int x5), none]) (st' := [.int x4, .int x3, .int x2, .int x1]) (h' := h) rfl ?_
  obtain ⟨y1, qy1, hf⟩ := gi_bind hf
  refine gi_EvCS rfl rfl rfl rfl rfl (e_X5_refusalOfOffers h _ _ _ _ _ qy1) ?_
  show gi_Ev M_X5_best 8 [some (.ref x0), some (.int x1), some (.int x2), some (.int x3), some (.int x4), some (.int x5), none] [.int y1] h _
  refine gi_EvN 2 (pc' := 12) (lv' := [some (.ref x0), some (.int x1), some (.int x2), some (.int x3), some (.int x4), some (.int x5), some (.int y1)]) (st' := [.int y1]) (h' := h) rfl ?_
  refine gi_Ev_ne rfl (fun c2 => ?_) (fun c2 => ?_)
  · rw [if_pos c2] at hf
    refine gi_EvN 1 (pc' := 17) (lv' := [some (.ref x0), some (.int x1), some (.int x2), some (.int x3), some (.int x4), some (.int x5), some (.int y1)]) (st' := [.int x5]) (h' := h) rfl ?_
    obtain ⟨y3, qy3, hf⟩ := gi_bind hf
    refine gi_EvCS rfl rfl rfl rfl rfl (e_X5_isPart h _ _ qy3) ?_
    show gi_Ev M_X5_best 20 [some (.ref x0), some (.int x1), some (.int x2), some (.int x3), some (.int x4), some (.int x5), some (.int y1)] [.int y3] h _
    refine gi_Ev_ne rfl (fun c4 => ?_) (fun c4 => ?_)
    · rw [if_pos c4] at hf
      refine gi_EvN 2 (pc' := 27) (lv' := [some (.ref x0), some (.int x1), some (.int x2), some (.int x3), some (.int x4), some (.int x5), some (.int (-2))]) (st' := []) (h' := h) rfl ?_
      exact e_X5_best_27 h _ _ _ _ _ _ _ _ hf
    · rw [if_neg c4] at hf
      exact e_X5_best_27 h _ _ _ _ _ _ _ _ hf
  · rw [if_neg c2] at hf
    exact e_X5_best_27 h _ _ _ _ _ _ _ _ hf
/-! X5_buys AdmiralGuinea.buys(IIII)I -/
def f_X5_buys (h : gi_H) (x0 : Nat) (x1 : Int32) (x2 : Int32) (x3 : Int32) (x4 : Int32) : Option (Int32 × gi_H) :=
  (f_X5_refusalOfOffers x1 x2 x3 x4).bind fun y1 => if y1 = 0 then (gi_fR h x0 5 3).bind fun y3 => (gi_fR h x0 5 0).bind fun y4 => if gi_is h y3 2 = true then (f_X2_lay h y3 y4 x2 x3 x4).bind fun h5 => (gi_fR h5 x0 5 3).bind fun y7 => (gi_fR h5 x0 5 0).bind fun y8 => (gi_fR h5 y8 0 7).bind fun y9 => (gi_ai h5 y9 0 x1).bind fun y10 => if gi_is h5 y7 2 = true then (f_X2_bestSet h5 y7 y10).bind fun y11 => some (y11, h5) else none else none
  else some (y1, h)
set_option maxRecDepth 20000 in
set_option maxHeartbeats 2000000 in
theorem e_X5_buys (h : gi_H) (x0 : Nat) (x1 : Int32) (x2 : Int32) (x3 : Int32) (x4 : Int32) (r : (Int32 × gi_H)) (hf : f_X5_buys h x0 x1 x2 x3 x4 = some r) : gi_Ev M_X5_buys 0 [some (.ref x0), some (.int x1), some (.int x2), some (.int x3), some (.int x4), none] [] h (some (.int r.1), r.2) := by
  unfold f_X5_buys at hf
  refine gi_EvN 4 (pc' := 5) (lv' := [some (.ref x0), some (.int x1), some (.int x2), some (.int x3), some (.int x4), none]) (st' := [.int x4, .int x3, .int x2, .int x1]) (h' := h) rfl ?_
  obtain ⟨y1, qy1, hf⟩ := gi_bind hf
  refine gi_EvCS rfl rfl rfl rfl rfl (e_X5_refusalOfOffers h _ _ _ _ _ qy1) ?_
  show gi_Ev M_X5_buys 8 [some (.ref x0), some (.int x1), some (.int x2), some (.int x3), some (.int x4), none] [.int y1] h _
  refine gi_EvN 2 (pc' := 12) (lv' := [some (.ref x0), some (.int x1), some (.int x2), some (.int x3), some (.int x4), some (.int y1)]) (st' := [.int y1]) (h' := h) rfl ?_
  refine gi_Ev_eq rfl (fun c2 => ?_) (fun c2 => ?_)
  · rw [if_pos c2] at hf
    refine gi_EvN 1 (pc' := 19) (lv' := [some (.ref x0), some (.int x1), some (.int x2), some (.int x3), some (.int x4), some (.int y1)]) (st' := [.ref x0]) (h' := h) rfl ?_
    obtain ⟨y3, qy3, hf⟩ := gi_bind hf
    refine gi_EvF rfl (gi_fR_inv qy3) ?_
    refine gi_EvN 1 (pc' := 23) (lv' := [some (.ref x0), some (.int x1), some (.int x2), some (.int x3), some (.int x4), some (.int y1)]) (st' := [.ref x0, .ref y3]) (h' := h) rfl ?_
    obtain ⟨y4, qy4, hf⟩ := gi_bind hf
    refine gi_EvF rfl (gi_fR_inv qy4) ?_
    refine gi_EvN 3 (pc' := 30) (lv' := [some (.ref x0), some (.int x1), some (.int x2), some (.int x3), some (.int x4), some (.int y1)]) (st' := [.int x4, .int x3, .int x2, .ref y4, .ref y3]) (h' := h) rfl ?_
    by_cases c6 : gi_is h y3 2 = true
    rotate_left
    · rw [if_neg c6] at hf; cases hf
    rw [if_pos c6] at hf
    obtain ⟨h5, qh5, hf⟩ := gi_bind hf
    refine gi_EvCV rfl rfl c6 rfl rfl (e_X2_lay h _ _ _ _ _ _ qh5) ?_
    show gi_Ev M_X5_buys 33 [some (.ref x0), some (.int x1), some (.int x2), some (.int x3), some (.int x4), some (.int y1)] [] h5 _
    refine gi_EvN 1 (pc' := 34) (lv' := [some (.ref x0), some (.int x1), some (.int x2), some (.int x3), some (.int x4), some (.int y1)]) (st' := [.ref x0]) (h' := h5) rfl ?_
    obtain ⟨y7, qy7, hf⟩ := gi_bind hf
    refine gi_EvF rfl (gi_fR_inv qy7) ?_
    refine gi_EvN 1 (pc' := 38) (lv' := [some (.ref x0), some (.int x1), some (.int x2), some (.int x3), some (.int x4), some (.int y1)]) (st' := [.ref x0, .ref y7]) (h' := h5) rfl ?_
    obtain ⟨y8, qy8, hf⟩ := gi_bind hf
    refine gi_EvF rfl (gi_fR_inv qy8) ?_
    obtain ⟨y9, qy9, hf⟩ := gi_bind hf
    refine gi_EvF rfl (gi_fR_inv qy9) ?_
    refine gi_EvN 1 (pc' := 45) (lv' := [some (.ref x0), some (.int x1), some (.int x2), some (.int x3), some (.int x4), some (.int y1)]) (st' := [.int x1, .ref y9, .ref y7]) (h' := h5) rfl ?_
    obtain ⟨y10, qy10, hf⟩ := gi_bind hf
    refine gi_EvAi rfl qy10 ?_
    by_cases c12 : gi_is h5 y7 2 = true
    rotate_left
    · rw [if_neg c12] at hf; cases hf
    rw [if_pos c12] at hf
    obtain ⟨y11, qy11, hf⟩ := gi_bind hf
    refine gi_EvCV rfl rfl c12 rfl rfl (e_X2_bestSet h5 _ _ _ qy11) ?_
    show gi_Ev M_X5_buys 49 [some (.ref x0), some (.int x1), some (.int x2), some (.int x3), some (.int x4), some (.int y1)] [.int y11] h5 _
    cases hf
    exact gi_EvR rfl rfl
  · rw [if_neg c2] at hf
    refine gi_EvN 1 (pc' := 17) (lv' := [some (.ref x0), some (.int x1), some (.int x2), some (.int x3), some (.int x4), some (.int y1)]) (st' := [.int y1]) (h' := h) rfl ?_
    cases hf
    exact gi_EvR rfl rfl
/-! X5_voids AdmiralGuinea.voids(II)I -/
def f_X5_voids_37 (h : gi_H) (k_28 : Nat → Int32 → Int32 → Int32 → Int32 → Option Int32) : Nat → Nat → Int32 → Int32 → Int32 → Int32 → Int32 → Option Int32
  | 0, _, _, _, _, _, _ => none
  | n + 1, x0, x1, x2, x3, x4, x5 => if 6 ≤ x5 then k_28 x0 x1 x2 x3 (x4 + 1)
  else (gi_fR h x0 5 0).bind fun y2 => (gi_fR h x0 5 0).bind fun y3 => if gi_is h y3 0 = true then (f_X0_groupOf h y3 x4 x5).bind fun y4 => if gi_is h y2 0 = true then (f_X0_fewestVoid h y2 y4 x1).bind fun y6 => f_X5_voids_37 h k_28 n x0 x1 x2 (x3 ||| y6) x4 (x5 + 1) else none else none
set_option maxRecDepth 20000 in
set_option maxHeartbeats 2000000 in
theorem e_X5_voids_37 (h : gi_H) (k_28 : Nat → Int32 → Int32 → Int32 → Int32 → Option Int32) (hk_28 : ∀ (g5 : Option Value) (x0 : Nat) (x1 : Int32) (x2 : Int32) (x3 : Int32) (x4 : Int32) (r : Int32), k_28 x0 x1 x2 x3 x4 = some r → gi_Ev M_X5_voids 28 [some (.ref x0), some (.int x1), some (.int x2), some (.int x3), some (.int x4), g5] [] h (some (.int r), h)) : ∀ (n : Nat) (x0 : Nat) (x1 : Int32) (x2 : Int32) (x3 : Int32) (x4 : Int32) (x5 : Int32) (r : Int32), f_X5_voids_37 h k_28 n x0 x1 x2 x3 x4 x5 = some r → gi_Ev M_X5_voids 37 [some (.ref x0), some (.int x1), some (.int x2), some (.int x3), some (.int x4), some (.int x5)] [] h (some (.int r), h) := by
  intro n
  induction n with
  | zero =>
    intro x0 x1 x2 x3 x4 x5 r hf
    unfold f_X5_voids_37 at hf
    cases hf
  | succ n ih =>
    intro x0 x1 x2 x3 x4 x5 r hf
    unfold f_X5_voids_37 at hf
    refine gi_EvN 2 (pc' := 41) (lv' := [some (.ref x0), some (.int x1), some (.int x2), some (.int x3), some (.int x4), some (.int x5)]) (st' := [.int 6, .int x5]) (h' := h) rfl ?_
    refine gi_Ev_ige rfl (fun c1 => ?_) (fun c1 => ?_)
    · rw [if_pos c1] at hf
      refine gi_EvN 2 (pc' := 28) (lv' := [some (.ref x0), some (.int x1), some (.int x2), some (.int x3), some (.int (x4 + 1)), some (.int x5)]) (st' := []) (h' := h) rfl ?_
      exact hk_28 _  _  _  _  _  _ _ hf
    · rw [if_neg c1] at hf
      refine gi_EvN 2 (pc' := 46) (lv' := [some (.ref x0), some (.int x1), some (.int x2), some (.int x3), some (.int x4), some (.int x5)]) (st' := [.ref x0, .int x3]) (h' := h) rfl ?_
      obtain ⟨y2, qy2, hf⟩ := gi_bind hf
      refine gi_EvF rfl (gi_fR_inv qy2) ?_
      refine gi_EvN 1 (pc' := 50) (lv' := [some (.ref x0), some (.int x1), some (.int x2), some (.int x3), some (.int x4), some (.int x5)]) (st' := [.ref x0, .ref y2, .int x3]) (h' := h) rfl ?_
      obtain ⟨y3, qy3, hf⟩ := gi_bind hf
      refine gi_EvF rfl (gi_fR_inv qy3) ?_
      refine gi_EvN 2 (pc' := 57) (lv' := [some (.ref x0), some (.int x1), some (.int x2), some (.int x3), some (.int x4), some (.int x5)]) (st' := [.int x5, .int x4, .ref y3, .ref y2, .int x3]) (h' := h) rfl ?_
      by_cases c5 : gi_is h y3 0 = true
      rotate_left
      · rw [if_neg c5] at hf; cases hf
      rw [if_pos c5] at hf
      obtain ⟨y4, qy4, hf⟩ := gi_bind hf
      refine gi_EvCV rfl rfl c5 rfl rfl (e_X0_groupOf h _ _ _ _ qy4) ?_
      show gi_Ev M_X5_voids 60 [some (.ref x0), some (.int x1), some (.int x2), some (.int x3), some (.int x4), some (.int x5)] [.int y4, .ref y2, .int x3] h _
      refine gi_EvN 1 (pc' := 61) (lv' := [some (.ref x0), some (.int x1), some (.int x2), some (.int x3), some (.int x4), some (.int x5)]) (st' := [.int x1, .int y4, .ref y2, .int x3]) (h' := h) rfl ?_
      by_cases c7 : gi_is h y2 0 = true
      rotate_left
      · rw [if_neg c7] at hf; cases hf
      rw [if_pos c7] at hf
      obtain ⟨y6, qy6, hf⟩ := gi_bind hf
      refine gi_EvCV rfl rfl c7 rfl rfl (e_X0_fewestVoid h _ _ _ _ qy6) ?_
      show gi_Ev M_X5_voids 64 [some (.ref x0), some (.int x1), some (.int x2), some (.int x3), some (.int x4), some (.int x5)] [.int y6, .int x3] h _
      refine gi_EvN 4 (pc' := 37) (lv' := [some (.ref x0), some (.int x1), some (.int x2), some (.int (x3 ||| y6)), some (.int x4), some (.int (x5 + 1))]) (st' := []) (h' := h) rfl ?_
      exact ih   _  _  _  _  _  _ _ hf
def f_X5_voids_78 (h : gi_H) (x2 : Int32) (x3 : Int32) : Option Int32 :=
  if x2 = 0 then (f_J6_bitCount_0f7a4 x3).bind fun y2 => some (y2)
  else some (x3)
set_option maxRecDepth 20000 in
set_option maxHeartbeats 2000000 in
theorem e_X5_voids_78 (h : gi_H) (g0 : Option Value) (g1 : Option Value) (g4 : Option Value) (g5 : Option Value) (x2 : Int32) (x3 : Int32) (r : Int32) (hf : f_X5_voids_78 h x2 x3 = some r) : gi_Ev M_X5_voids 78 [g0, g1, some (.int x2), some (.int x3), g4, g5] [] h (some (.int r), h) := by
  unfold f_X5_voids_78 at hf
  refine gi_EvN 1 (pc' := 79) (lv' := [g0, g1, some (.int x2), some (.int x3), g4, g5]) (st' := [.int x2]) (h' := h) rfl ?_
  refine gi_Ev_ne rfl (fun c1 => ?_) (fun c1 => ?_)
  · rw [if_pos c1] at hf
    refine gi_EvN 1 (pc' := 83) (lv' := [g0, g1, some (.int x2), some (.int x3), g4, g5]) (st' := [.int x3]) (h' := h) rfl ?_
    obtain ⟨y2, qy2, hf⟩ := gi_bind hf
    refine gi_EvCS rfl rfl rfl rfl rfl (e_J6_bitCount_0f7a4 h _ _ qy2) ?_
    show gi_Ev M_X5_voids 86 [g0, g1, some (.int x2), some (.int x3), g4, g5] [.int y2] h _
    refine gi_EvN 1 (pc' := 90) (lv' := [g0, g1, some (.int x2), some (.int x3), g4, g5]) (st' := [.int y2]) (h' := h) rfl ?_
    cases hf
    exact gi_EvR rfl rfl
  · rw [if_neg c1] at hf
    refine gi_EvN 1 (pc' := 90) (lv' := [g0, g1, some (.int x2), some (.int x3), g4, g5]) (st' := [.int x3]) (h' := h) rfl ?_
    cases hf
    exact gi_EvR rfl rfl
def f_X5_voids_28 (h : gi_H) : Nat → Nat → Int32 → Int32 → Int32 → Int32 → Option Int32
  | 0, _, _, _, _, _ => none
  | n + 1, x0, x1, x2, x3, x4 => if 4 ≤ x4 then f_X5_voids_78 h x2 x3
  else f_X5_voids_37 h (f_X5_voids_28 h n) gi_F x0 x1 x2 x3 x4 0
set_option maxRecDepth 20000 in
set_option maxHeartbeats 2000000 in
theorem e_X5_voids_28 (h : gi_H) : ∀ (n : Nat) (g5 : Option Value) (x0 : Nat) (x1 : Int32) (x2 : Int32) (x3 : Int32) (x4 : Int32) (r : Int32), f_X5_voids_28 h n x0 x1 x2 x3 x4 = some r → gi_Ev M_X5_voids 28 [some (.ref x0), some (.int x1), some (.int x2), some (.int x3), some (.int x4), g5] [] h (some (.int r), h) := by
  intro n
  induction n with
  | zero =>
    intro g5 x0 x1 x2 x3 x4 r hf
    unfold f_X5_voids_28 at hf
    cases hf
  | succ n ih =>
    intro g5 x0 x1 x2 x3 x4 r hf
    unfold f_X5_voids_28 at hf
    refine gi_EvN 2 (pc' := 31) (lv' := [some (.ref x0), some (.int x1), some (.int x2), some (.int x3), some (.int x4), g5]) (st' := [.int 4, .int x4]) (h' := h) rfl ?_
    refine gi_Ev_ige rfl (fun c1 => ?_) (fun c1 => ?_)
    · rw [if_pos c1] at hf
      exact e_X5_voids_78 h _ _ _ _ _ _ _ hf
    · rw [if_neg c1] at hf
      refine gi_EvN 2 (pc' := 37) (lv' := [some (.ref x0), some (.int x1), some (.int x2), some (.int x3), some (.int x4), some (.int 0)]) (st' := []) (h' := h) rfl ?_
      exact e_X5_voids_37 h _ ih gi_F _ _ _ _ _ _ _ hf
def f_X5_voids (h : gi_H) (x0 : Nat) (x1 : Int32) (x2 : Int32) : Option Int32 :=
  (f_X5_isWithin x1 0 999).bind fun y1 => if y1 = 0 then some ((-2))
  else (f_X5_isWithin x2 0 1).bind fun y3 => if y3 = 0 then some ((-2))
  else f_X5_voids_28 h gi_F x0 x1 x2 0 0
set_option maxRecDepth 20000 in
set_option maxHeartbeats 2000000 in
theorem e_X5_voids (h : gi_H) (x0 : Nat) (x1 : Int32) (x2 : Int32) (r : Int32) (hf : f_X5_voids h x0 x1 x2 = some r) : gi_Ev M_X5_voids 0 [some (.ref x0), some (.int x1), some (.int x2), none, none, none] [] h (some (.int r), h) := by
  unfold f_X5_voids at hf
  refine gi_EvN 3 (pc' := 5) (lv' := [some (.ref x0), some (.int x1), some (.int x2), none, none, none]) (st' := [.int 999, .int 0, .int x1]) (h' := h) rfl ?_
  obtain ⟨y1, qy1, hf⟩ := gi_bind hf
  refine gi_EvCS rfl rfl rfl rfl rfl (e_X5_isWithin h _ _ _ _ qy1) ?_
  show gi_Ev M_X5_voids 8 [some (.ref x0), some (.int x1), some (.int x2), none, none, none] [.int y1] h _
  refine gi_Ev_eq rfl (fun c2 => ?_) (fun c2 => ?_)
  · rw [if_pos c2] at hf
    refine gi_EvN 1 (pc' := 22) (lv' := [some (.ref x0), some (.int x1), some (.int x2), none, none, none]) (st' := [.int (-2)]) (h' := h) rfl ?_
    cases hf
    exact gi_EvR rfl rfl
  · rw [if_neg c2] at hf
    refine gi_EvN 3 (pc' := 14) (lv' := [some (.ref x0), some (.int x1), some (.int x2), none, none, none]) (st' := [.int 1, .int 0, .int x2]) (h' := h) rfl ?_
    obtain ⟨y3, qy3, hf⟩ := gi_bind hf
    refine gi_EvCS rfl rfl rfl rfl rfl (e_X5_isWithin h _ _ _ _ qy3) ?_
    show gi_Ev M_X5_voids 17 [some (.ref x0), some (.int x1), some (.int x2), none, none, none] [.int y3] h _
    refine gi_Ev_ne rfl (fun c4 => ?_) (fun c4 => ?_)
    · rw [if_pos c4] at hf
      refine gi_EvN 1 (pc' := 22) (lv' := [some (.ref x0), some (.int x1), some (.int x2), none, none, none]) (st' := [.int (-2)]) (h' := h) rfl ?_
      cases hf
      exact gi_EvR rfl rfl
    · rw [if_neg c4] at hf
      refine gi_EvN 4 (pc' := 28) (lv' := [some (.ref x0), some (.int x1), some (.int x2), some (.int 0), some (.int 0), none]) (st' := []) (h' := h) rfl ?_
      exact e_X5_voids_28 h gi_F _ _ _ _ _ _ _ hf
/-! X5_ruin AdmiralGuinea.ruin(III)J -/
def f_X5_ruin_107 (h : gi_H) (x1 : Int32) (x3 : Int32) (x4 : Int64) : Option Int64 :=
  (f_X5_power 10 (x1 * 6)).bind fun y1 => (f_X5_lowest x4 y1 x3).bind fun y2 => some (y2)
set_option maxRecDepth 20000 in
set_option maxHeartbeats 2000000 in
theorem e_X5_ruin_107 (h : gi_H) (g0 : Option Value) (g2 : Option Value) (g5 : Option Value) (g6 : Option Value) (x1 : Int32) (x3 : Int32) (x4 : Int64) (r : Int64) (hf : f_X5_ruin_107 h x1 x3 x4 = some r) : gi_Ev M_X5_ruin 107 [g0, some (.int x1), g2, some (.int x3), some (.long x4), g5, g6] [] h (some (.long r), h) := by
  unfold f_X5_ruin_107 at hf
  refine gi_EvN 5 (pc' := 116) (lv' := [g0, some (.int x1), g2, some (.int x3), some (.long x4), g5, g6]) (st' := [.int (x1 * 6), .long 10, .long x4]) (h' := h) rfl ?_
  obtain ⟨y1, qy1, hf⟩ := gi_bind hf
  refine gi_EvCS rfl rfl rfl rfl rfl (e_X5_power h _ _ _ qy1) ?_
  show gi_Ev M_X5_ruin 119 [g0, some (.int x1), g2, some (.int x3), some (.long x4), g5, g6] [.long y1, .long x4] h _
  refine gi_EvN 1 (pc' := 120) (lv' := [g0, some (.int x1), g2, some (.int x3), some (.long x4), g5, g6]) (st' := [.int x3, .long y1, .long x4]) (h' := h) rfl ?_
  obtain ⟨y2, qy2, hf⟩ := gi_bind hf
  refine gi_EvCS rfl rfl rfl rfl rfl (e_X5_lowest h _ _ _ _ qy2) ?_
  show gi_Ev M_X5_ruin 123 [g0, some (.int x1), g2, some (.int x3), some (.long x4), g5, g6] [.long y2] h _
  cases hf
  exact gi_EvR rfl rfl
def f_X5_ruin_60 (h : gi_H) : Nat → Nat → Int32 → Int32 → Int64 → Int32 → Option Int64
  | 0, _, _, _, _, _ => none
  | n + 1, x0, x1, x3, x4, x6 => if 64 ≤ x6 then f_X5_ruin_107 h x1 x3 x4
  else (gi_fR h x0 5 0).bind fun y2 => if gi_is h y2 0 = true then (f_X0_owedFor h y2 x6).bind fun y3 => (gi_fR h x0 5 0).bind fun y5 => (gi_fI h y5 0 1).bind fun y6 => if y3 ≤ y6 then f_X5_ruin_60 h n x0 x1 x3 x4 (x6 + 1)
  else (gi_fR h x0 5 0).bind fun y8 => if gi_is h y8 0 = true then (f_X0_waysOf h y8 x6 x1).bind fun y9 => f_X5_ruin_60 h n x0 x1 x3 (x4 + y9) (x6 + 1) else none else none
set_option maxRecDepth 20000 in
set_option maxHeartbeats 2000000 in
theorem e_X5_ruin_60 (h : gi_H) : ∀ (n : Nat) (g2 : Option Value) (g5 : Option Value) (x0 : Nat) (x1 : Int32) (x3 : Int32) (x4 : Int64) (x6 : Int32) (r : Int64), f_X5_ruin_60 h n x0 x1 x3 x4 x6 = some r → gi_Ev M_X5_ruin 60 [some (.ref x0), some (.int x1), g2, some (.int x3), some (.long x4), g5, some (.int x6)] [] h (some (.long r), h) := by
  intro n
  induction n with
  | zero =>
    intro g2 g5 x0 x1 x3 x4 x6 r hf
    unfold f_X5_ruin_60 at hf
    cases hf
  | succ n ih =>
    intro g2 g5 x0 x1 x3 x4 x6 r hf
    unfold f_X5_ruin_60 at hf
    refine gi_EvN 2 (pc' := 64) (lv' := [some (.ref x0), some (.int x1), g2, some (.int x3), some (.long x4), g5, some (.int x6)]) (st' := [.int 64, .int x6]) (h' := h) rfl ?_
    refine gi_Ev_ige rfl (fun c1 => ?_) (fun c1 => ?_)
    · rw [if_pos c1] at hf
      exact e_X5_ruin_107 h _ _ _ _ _ _ _ _ hf
    · rw [if_neg c1] at hf
      refine gi_EvN 1 (pc' := 68) (lv' := [some (.ref x0), some (.int x1), g2, some (.int x3), some (.long x4), g5, some (.int x6)]) (st' := [.ref x0]) (h' := h) rfl ?_
      obtain ⟨y2, qy2, hf⟩ := gi_bind hf
      refine gi_EvF rfl (gi_fR_inv qy2) ?_
      refine gi_EvN 1 (pc' := 73) (lv' := [some (.ref x0), some (.int x1), g2, some (.int x3), some (.long x4), g5, some (.int x6)]) (st' := [.int x6, .ref y2]) (h' := h) rfl ?_
      by_cases c4 : gi_is h y2 0 = true
      rotate_left
      · rw [if_neg c4] at hf; cases hf
      rw [if_pos c4] at hf
      obtain ⟨y3, qy3, hf⟩ := gi_bind hf
      refine gi_EvCV rfl rfl c4 rfl rfl (e_X0_owedFor h _ _ _ qy3) ?_
      show gi_Ev M_X5_ruin 76 [some (.ref x0), some (.int x1), g2, some (.int x3), some (.long x4), g5, some (.int x6)] [.int y3] h _
      refine gi_EvN 1 (pc' := 77) (lv' := [some (.ref x0), some (.int x1), g2, some (.int x3), some (.long x4), g5, some (.int x6)]) (st' := [.ref x0, .int y3]) (h' := h) rfl ?_
      obtain ⟨y5, qy5, hf⟩ := gi_bind hf
      refine gi_EvF rfl (gi_fR_inv qy5) ?_
      obtain ⟨y6, qy6, hf⟩ := gi_bind hf
      refine gi_EvF rfl (gi_fI_inv qy6) ?_
      refine gi_Ev_ile rfl (fun c7 => ?_) (fun c7 => ?_)
      · rw [if_pos c7] at hf
        refine gi_EvN 2 (pc' := 60) (lv' := [some (.ref x0), some (.int x1), g2, some (.int x3), some (.long x4), (gi_cl g5), some (.int (x6 + 1))]) (st' := []) (h' := h) rfl ?_
        exact ih _ _  _  _  _  _  _ _ hf
      · rw [if_neg c7] at hf
        refine gi_EvN 2 (pc' := 89) (lv' := [some (.ref x0), some (.int x1), g2, some (.int x3), some (.long x4), g5, some (.int x6)]) (st' := [.ref x0, .long x4]) (h' := h) rfl ?_
        obtain ⟨y8, qy8, hf⟩ := gi_bind hf
        refine gi_EvF rfl (gi_fR_inv qy8) ?_
        refine gi_EvN 2 (pc' := 95) (lv' := [some (.ref x0), some (.int x1), g2, some (.int x3), some (.long x4), g5, some (.int x6)]) (st' := [.int x1, .int x6, .ref y8, .long x4]) (h' := h) rfl ?_
        by_cases c10 : gi_is h y8 0 = true
        rotate_left
        · rw [if_neg c10] at hf; cases hf
        rw [if_pos c10] at hf
        obtain ⟨y9, qy9, hf⟩ := gi_bind hf
        refine gi_EvCV rfl rfl c10 rfl rfl (e_X0_waysOf h _ _ _ _ qy9) ?_
        show gi_Ev M_X5_ruin 98 [some (.ref x0), some (.int x1), g2, some (.int x3), some (.long x4), g5, some (.int x6)] [.long y9, .long x4] h _
        refine gi_EvN 4 (pc' := 60) (lv' := [some (.ref x0), some (.int x1), g2, some (.int x3), some (.long (x4 + y9)), none, some (.int (x6 + 1))]) (st' := []) (h' := h) rfl ?_
        exact ih _ _  _  _  _  _  _ _ hf
def f_X5_ruin (h : gi_H) (x0 : Nat) (x1 : Int32) (x2 : Int32) (x3 : Int32) : Option Int64 :=
  (f_X5_isWithin x1 0 3).bind fun y1 => if y1 = 0 then some ((-1000000000000000002))
  else (f_X5_isWithin x2 0 1).bind fun y3 => if y3 = 0 then some ((-1000000000000000002))
  else (f_X5_isPart x3).bind fun y5 => if y5 = 0 then some ((-1000000000000000002))
  else if x2 = 1 then (gi_fR h x0 5 0).bind fun y8 => if gi_is h y8 0 = true then (f_X0_meanOwed h y8 x1).bind fun y9 => (f_X5_power 10 x1).bind fun y11 => (f_X5_lowest y9 y11 x3).bind fun y12 => some (y12) else none
  else f_X5_ruin_60 h gi_F x0 x1 x3 0 0
set_option maxRecDepth 20000 in
set_option maxHeartbeats 2000000 in
theorem e_X5_ruin (h : gi_H) (x0 : Nat) (x1 : Int32) (x2 : Int32) (x3 : Int32) (r : Int64) (hf : f_X5_ruin h x0 x1 x2 x3 = some r) : gi_Ev M_X5_ruin 0 [some (.ref x0), some (.int x1), some (.int x2), some (.int x3), none, none, none] [] h (some (.long r), h) := by
  unfold f_X5_ruin at hf
  refine gi_EvN 3 (pc' := 3) (lv' := [some (.ref x0), some (.int x1), some (.int x2), some (.int x3), none, none, none]) (st' := [.int 3, .int 0, .int x1]) (h' := h) rfl ?_
  obtain ⟨y1, qy1, hf⟩ := gi_bind hf
  refine gi_EvCS rfl rfl rfl rfl rfl (e_X5_isWithin h _ _ _ _ qy1) ?_
  show gi_Ev M_X5_ruin 6 [some (.ref x0), some (.int x1), some (.int x2), some (.int x3), none, none, none] [.int y1] h _
  refine gi_Ev_eq rfl (fun c2 => ?_) (fun c2 => ?_)
  · rw [if_pos c2] at hf
    refine gi_EvN 1 (pc' := 28) (lv' := [some (.ref x0), some (.int x1), some (.int x2), some (.int x3), none, none, none]) (st' := [.long (-1000000000000000002)]) (h' := h) rfl ?_
    cases hf
    exact gi_EvR rfl rfl
  · rw [if_neg c2] at hf
    refine gi_EvN 3 (pc' := 12) (lv' := [some (.ref x0), some (.int x1), some (.int x2), some (.int x3), none, none, none]) (st' := [.int 1, .int 0, .int x2]) (h' := h) rfl ?_
    obtain ⟨y3, qy3, hf⟩ := gi_bind hf
    refine gi_EvCS rfl rfl rfl rfl rfl (e_X5_isWithin h _ _ _ _ qy3) ?_
    show gi_Ev M_X5_ruin 15 [some (.ref x0), some (.int x1), some (.int x2), some (.int x3), none, none, none] [.int y3] h _
    refine gi_Ev_eq rfl (fun c4 => ?_) (fun c4 => ?_)
    · rw [if_pos c4] at hf
      refine gi_EvN 1 (pc' := 28) (lv' := [some (.ref x0), some (.int x1), some (.int x2), some (.int x3), none, none, none]) (st' := [.long (-1000000000000000002)]) (h' := h) rfl ?_
      cases hf
      exact gi_EvR rfl rfl
    · rw [if_neg c4] at hf
      refine gi_EvN 1 (pc' := 19) (lv' := [some (.ref x0), some (.int x1), some (.int x2), some (.int x3), none, none, none]) (st' := [.int x3]) (h' := h) rfl ?_
      obtain ⟨y5, qy5, hf⟩ := gi_bind hf
      refine gi_EvCS rfl rfl rfl rfl rfl (e_X5_isPart h _ _ qy5) ?_
      show gi_Ev M_X5_ruin 22 [some (.ref x0), some (.int x1), some (.int x2), some (.int x3), none, none, none] [.int y5] h _
      refine gi_Ev_ne rfl (fun c6 => ?_) (fun c6 => ?_)
      · rw [if_pos c6] at hf
        refine gi_EvN 1 (pc' := 28) (lv' := [some (.ref x0), some (.int x1), some (.int x2), some (.int x3), none, none, none]) (st' := [.long (-1000000000000000002)]) (h' := h) rfl ?_
        cases hf
        exact gi_EvR rfl rfl
      · rw [if_neg c6] at hf
        refine gi_EvN 2 (pc' := 31) (lv' := [some (.ref x0), some (.int x1), some (.int x2), some (.int x3), none, none, none]) (st' := [.int 1, .int x2]) (h' := h) rfl ?_
        refine gi_Ev_ine rfl (fun c7 => ?_) (fun c7 => ?_)
        · rw [if_pos c7] at hf
          refine gi_EvN 1 (pc' := 35) (lv' := [some (.ref x0), some (.int x1), some (.int x2), some (.int x3), none, none, none]) (st' := [.ref x0]) (h' := h) rfl ?_
          obtain ⟨y8, qy8, hf⟩ := gi_bind hf
          refine gi_EvF rfl (gi_fR_inv qy8) ?_
          refine gi_EvN 1 (pc' := 39) (lv' := [some (.ref x0), some (.int x1), some (.int x2), some (.int x3), none, none, none]) (st' := [.int x1, .ref y8]) (h' := h) rfl ?_
          by_cases c10 : gi_is h y8 0 = true
          rotate_left
          · rw [if_neg c10] at hf; cases hf
          rw [if_pos c10] at hf
          obtain ⟨y9, qy9, hf⟩ := gi_bind hf
          refine gi_EvCV rfl rfl c10 rfl rfl (e_X0_meanOwed h _ _ _ qy9) ?_
          show gi_Ev M_X5_ruin 42 [some (.ref x0), some (.int x1), some (.int x2), some (.int x3), none, none, none] [.long y9] h _
          refine gi_EvN 2 (pc' := 46) (lv' := [some (.ref x0), some (.int x1), some (.int x2), some (.int x3), none, none, none]) (st' := [.int x1, .long 10, .long y9]) (h' := h) rfl ?_
          obtain ⟨y11, qy11, hf⟩ := gi_bind hf
          refine gi_EvCS rfl rfl rfl rfl rfl (e_X5_power h _ _ _ qy11) ?_
          show gi_Ev M_X5_ruin 49 [some (.ref x0), some (.int x1), some (.int x2), some (.int x3), none, none, none] [.long y11, .long y9] h _
          refine gi_EvN 1 (pc' := 50) (lv' := [some (.ref x0), some (.int x1), some (.int x2), some (.int x3), none, none, none]) (st' := [.int x3, .long y11, .long y9]) (h' := h) rfl ?_
          obtain ⟨y12, qy12, hf⟩ := gi_bind hf
          refine gi_EvCS rfl rfl rfl rfl rfl (e_X5_lowest h _ _ _ _ qy12) ?_
          show gi_Ev M_X5_ruin 53 [some (.ref x0), some (.int x1), some (.int x2), some (.int x3), none, none, none] [.long y12] h _
          cases hf
          exact gi_EvR rfl rfl
        · rw [if_neg c7] at hf
          refine gi_EvN 4 (pc' := 60) (lv' := [some (.ref x0), some (.int x1), some (.int x2), some (.int x3), some (.long 0), none, some (.int 0)]) (st' := []) (h' := h) rfl ?_
          exact e_X5_ruin_60 h gi_F _ _ _ _ _ _ _ _ hf
/-! X5_tells AdmiralGuinea.tells(III)I -/
def f_X5_tells_39 : Nat → Int32 → Int32 → Int32 → Int32 → Int32 → Option Int32
  | 0, _, _, _, _, _ => none
  | n + 1, x1, x2, x3, x4, x5 => if 9 < x5 then some (x4)
  else (f_X5_priceOf (10 * x1) x5 x2).bind fun y2 => if y2 = x3 then f_X5_tells_39 n x1 x2 x3 (x4 ||| (1 <<< (x5 &&& 31))) (x5 + 1)
  else f_X5_tells_39 n x1 x2 x3 x4 (x5 + 1)
set_option maxRecDepth 20000 in
set_option maxHeartbeats 2000000 in
theorem e_X5_tells_39 (h : gi_H) : ∀ (n : Nat) (g0 : Option Value) (x1 : Int32) (x2 : Int32) (x3 : Int32) (x4 : Int32) (x5 : Int32) (r : Int32), f_X5_tells_39 n x1 x2 x3 x4 x5 = some r → gi_Ev M_X5_tells 39 [g0, some (.int x1), some (.int x2), some (.int x3), some (.int x4), some (.int x5)] [] h (some (.int r), h) := by
  intro n
  induction n with
  | zero =>
    intro g0 x1 x2 x3 x4 x5 r hf
    unfold f_X5_tells_39 at hf
    cases hf
  | succ n ih =>
    intro g0 x1 x2 x3 x4 x5 r hf
    unfold f_X5_tells_39 at hf
    refine gi_EvN 2 (pc' := 43) (lv' := [g0, some (.int x1), some (.int x2), some (.int x3), some (.int x4), some (.int x5)]) (st' := [.int 9, .int x5]) (h' := h) rfl ?_
    refine gi_Ev_igt rfl (fun c1 => ?_) (fun c1 => ?_)
    · rw [if_pos c1] at hf
      refine gi_EvN 1 (pc' := 77) (lv' := [g0, some (.int x1), some (.int x2), some (.int x3), some (.int x4), some (.int x5)]) (st' := [.int x4]) (h' := h) rfl ?_
      cases hf
      exact gi_EvR rfl rfl
    · rw [if_neg c1] at hf
      refine gi_EvN 5 (pc' := 53) (lv' := [g0, some (.int x1), some (.int x2), some (.int x3), some (.int x4), some (.int x5)]) (st' := [.int x2, .int x5, .int (10 * x1)]) (h' := h) rfl ?_
      obtain ⟨y2, qy2, hf⟩ := gi_bind hf
      refine gi_EvCS rfl rfl rfl rfl rfl (e_X5_priceOf h _ _ _ _ qy2) ?_
      show gi_Ev M_X5_tells 56 [g0, some (.int x1), some (.int x2), some (.int x3), some (.int x4), some (.int x5)] [.int y2] h _
      refine gi_EvN 1 (pc' := 57) (lv' := [g0, some (.int x1), some (.int x2), some (.int x3), some (.int x4), some (.int x5)]) (st' := [.int x3, .int y2]) (h' := h) rfl ?_
      refine gi_Ev_ine rfl (fun c3 => ?_) (fun c3 => ?_)
      · rw [if_pos c3] at hf
        refine gi_EvN 8 (pc' := 39) (lv' := [g0, some (.int x1), some (.int x2), some (.int x3), some (.int (x4 ||| (1 <<< (x5 &&& 31)))), some (.int (x5 + 1))]) (st' := []) (h' := h) rfl ?_
        exact ih _  _  _  _  _  _ _ hf
      · rw [if_neg c3] at hf
        refine gi_EvN 2 (pc' := 39) (lv' := [g0, some (.int x1), some (.int x2), some (.int x3), some (.int x4), some (.int (x5 + 1))]) (st' := []) (h' := h) rfl ?_
        exact ih _  _  _  _  _  _ _ hf
def f_X5_tells (x0 : Nat) (x1 : Int32) (x2 : Int32) (x3 : Int32) : Option Int32 :=
  (f_X5_isWithin x1 1 9).bind fun y1 => if y1 = 0 then some ((-2))
  else (f_X5_isWithin x2 1 9).bind fun y3 => if y3 = 0 then some ((-2))
  else (f_X5_isWithin x3 0 99).bind fun y5 => if y5 = 0 then some ((-2))
  else f_X5_tells_39 gi_F x1 x2 x3 0 1
set_option maxRecDepth 20000 in
set_option maxHeartbeats 2000000 in
theorem e_X5_tells (h : gi_H) (x0 : Nat) (x1 : Int32) (x2 : Int32) (x3 : Int32) (r : Int32) (hf : f_X5_tells x0 x1 x2 x3 = some r) : gi_Ev M_X5_tells 0 [some (.ref x0), some (.int x1), some (.int x2), some (.int x3), none, none] [] h (some (.int r), h) := by
  unfold f_X5_tells at hf
  refine gi_EvN 3 (pc' := 4) (lv' := [some (.ref x0), some (.int x1), some (.int x2), some (.int x3), none, none]) (st' := [.int 9, .int 1, .int x1]) (h' := h) rfl ?_
  obtain ⟨y1, qy1, hf⟩ := gi_bind hf
  refine gi_EvCS rfl rfl rfl rfl rfl (e_X5_isWithin h _ _ _ _ qy1) ?_
  show gi_Ev M_X5_tells 7 [some (.ref x0), some (.int x1), some (.int x2), some (.int x3), none, none] [.int y1] h _
  refine gi_Ev_eq rfl (fun c2 => ?_) (fun c2 => ?_)
  · rw [if_pos c2] at hf
    refine gi_EvN 1 (pc' := 32) (lv' := [some (.ref x0), some (.int x1), some (.int x2), some (.int x3), none, none]) (st' := [.int (-2)]) (h' := h) rfl ?_
    cases hf
    exact gi_EvR rfl rfl
  · rw [if_neg c2] at hf
    refine gi_EvN 3 (pc' := 14) (lv' := [some (.ref x0), some (.int x1), some (.int x2), some (.int x3), none, none]) (st' := [.int 9, .int 1, .int x2]) (h' := h) rfl ?_
    obtain ⟨y3, qy3, hf⟩ := gi_bind hf
    refine gi_EvCS rfl rfl rfl rfl rfl (e_X5_isWithin h _ _ _ _ qy3) ?_
    show gi_Ev M_X5_tells 17 [some (.ref x0), some (.int x1), some (.int x2), some (.int x3), none, none] [.int y3] h _
    refine gi_Ev_eq rfl (fun c4 => ?_) (fun c4 => ?_)
    · rw [if_pos c4] at hf
      refine gi_EvN 1 (pc' := 32) (lv' := [some (.ref x0), some (.int x1), some (.int x2), some (.int x3), none, none]) (st' := [.int (-2)]) (h' := h) rfl ?_
      cases hf
      exact gi_EvR rfl rfl
    · rw [if_neg c4] at hf
      refine gi_EvN 3 (pc' := 24) (lv' := [some (.ref x0), some (.int x1), some (.int x2), some (.int x3), none, none]) (st' := [.int 99, .int 0, .int x3]) (h' := h) rfl ?_
      obtain ⟨y5, qy5, hf⟩ := gi_bind hf
      refine gi_EvCS rfl rfl rfl rfl rfl (e_X5_isWithin h _ _ _ _ qy5) ?_
      show gi_Ev M_X5_tells 27 [some (.ref x0), some (.int x1), some (.int x2), some (.int x3), none, none] [.int y5] h _
      refine gi_Ev_ne rfl (fun c6 => ?_) (fun c6 => ?_)
      · rw [if_pos c6] at hf
        refine gi_EvN 1 (pc' := 32) (lv' := [some (.ref x0), some (.int x1), some (.int x2), some (.int x3), none, none]) (st' := [.int (-2)]) (h' := h) rfl ?_
        cases hf
        exact gi_EvR rfl rfl
      · rw [if_neg c6] at hf
        refine gi_EvN 4 (pc' := 39) (lv' := [some (.ref x0), some (.int x1), some (.int x2), some (.int x3), some (.int 0), some (.int 1)]) (st' := []) (h' := h) rfl ?_
        exact e_X5_tells_39 h gi_F _ _ _ _ _ _ _ hf
