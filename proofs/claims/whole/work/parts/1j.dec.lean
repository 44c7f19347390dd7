/-! X6_told AdmiralGuineaModel.told(I)I -/
def f_X6_told (h : gi_H) (x0 : Nat) (x1 : Int32) : Option Int32 :=
  if x1 < 20 then if x1 < 10 then if x1 = 0 then (gi_fI h x0 6 4).bind fun y4 => some (y4)
  else if x1 = 1 then (gi_fR h x0 6 0).bind fun y6 => (gi_ai h y6 0 11).bind fun y7 => some (y7)
  else if x1 = 2 then (gi_fR h x0 6 0).bind fun y9 => (gi_ai h y9 0 10).bind fun y10 => some (y10)
  else if x1 = 3 then (gi_fI h x0 6 2).bind fun y12 => some (y12)
  else if x1 = 4 then (gi_fR h x0 6 0).bind fun y14 => (gi_ai h y14 0 12).bind fun y15 => some (y15)
  else if x1 = 5 then (gi_fR h x0 6 0).bind fun y17 => (gi_ai h y17 0 13).bind fun y18 => some (y18)
  else if x1 = 6 then (gi_fR h x0 6 0).bind fun y20 => (gi_ai h y20 0 14).bind fun y21 => some (y21)
  else some ((-2))
  else (f_X6_isBuyer (x1 - 10)).bind fun y22 => if y22 = 0 then some ((-2))
  else (gi_fR h x0 6 0).bind fun y24 => (gi_ai h y24 0 (x1 - 4)).bind fun y25 => some (y25)
  else (f_X6_isLife (x1 - 20)).bind fun y26 => if y26 = 0 then some ((-2))
  else (gi_fR h x0 6 0).bind fun y28 => (gi_ai h y28 0 (x1 - 20)).bind fun y29 => some (y29)
set_option maxRecDepth 20000 in
set_option maxHeartbeats 2000000 in
theorem e_X6_told (h : gi_H) (x0 : Nat) (x1 : Int32) (r : Int32) (hf : f_X6_told h x0 x1 = some r) : gi_Ev M_X6_told 0 [some (.ref x0), some (.int x1)] [] h (some (.int r), h) := by
  unfold f_X6_told at hf
  refine gi_EvN 2 (pc' := 3) (lv' := [some (.ref x0), some (.int x1)]) (st' := [.int 20, .int x1]) (h' := h) rfl ?_
  refine gi_Ev_ilt rfl (fun c1 => ?_) (fun c1 => ?_)
  · rw [if_pos c1] at hf
    refine gi_EvN 2 (pc' := 34) (lv' := [some (.ref x0), some (.int x1)]) (st' := [.int 10, .int x1]) (h' := h) rfl ?_
    refine gi_Ev_ilt rfl (fun c2 => ?_) (fun c2 => ?_)
    · rw [if_pos c2] at hf
      refine gi_EvN 1 (pc' := 62) (lv' := [some (.ref x0), some (.int x1)]) (st' := [.int x1]) (h' := h) rfl ?_
      by_cases c3 : x1 = 0
      · rw [if_pos c3] at hf
        refine gi_EvTs (t := 100) rfl (gi_sw_at c3 (by decide)) ?_
        refine gi_EvN 1 (pc' := 101) (lv' := [some (.ref x0), some (.int x1)]) (st' := [.ref x0]) (h' := h) rfl ?_
        obtain ⟨y4, qy4, hf⟩ := gi_bind hf
        refine gi_EvF rfl (gi_fI_inv qy4) ?_
        cases hf
        exact gi_EvR rfl rfl
      rw [if_neg c3] at hf
      by_cases c5 : x1 = 1
      · rw [if_pos c5] at hf
        refine gi_EvTs (t := 105) rfl (gi_sw_at c5 (by decide)) ?_
        refine gi_EvN 1 (pc' := 106) (lv' := [some (.ref x0), some (.int x1)]) (st' := [.ref x0]) (h' := h) rfl ?_
        obtain ⟨y6, qy6, hf⟩ := gi_bind hf
        refine gi_EvF rfl (gi_fR_inv qy6) ?_
        refine gi_EvN 1 (pc' := 111) (lv' := [some (.ref x0), some (.int x1)]) (st' := [.int 11, .ref y6]) (h' := h) rfl ?_
        obtain ⟨y7, qy7, hf⟩ := gi_bind hf
        refine gi_EvAi rfl qy7 ?_
        cases hf
        exact gi_EvR rfl rfl
      rw [if_neg c5] at hf
      by_cases c8 : x1 = 2
      · rw [if_pos c8] at hf
        refine gi_EvTs (t := 113) rfl (gi_sw_at c8 (by decide)) ?_
        refine gi_EvN 1 (pc' := 114) (lv' := [some (.ref x0), some (.int x1)]) (st' := [.ref x0]) (h' := h) rfl ?_
        obtain ⟨y9, qy9, hf⟩ := gi_bind hf
        refine gi_EvF rfl (gi_fR_inv qy9) ?_
        refine gi_EvN 1 (pc' := 119) (lv' := [some (.ref x0), some (.int x1)]) (st' := [.int 10, .ref y9]) (h' := h) rfl ?_
        obtain ⟨y10, qy10, hf⟩ := gi_bind hf
        refine gi_EvAi rfl qy10 ?_
        cases hf
        exact gi_EvR rfl rfl
      rw [if_neg c8] at hf
      by_cases c11 : x1 = 3
      · rw [if_pos c11] at hf
        refine gi_EvTs (t := 121) rfl (gi_sw_at c11 (by decide)) ?_
        refine gi_EvN 1 (pc' := 122) (lv' := [some (.ref x0), some (.int x1)]) (st' := [.ref x0]) (h' := h) rfl ?_
        obtain ⟨y12, qy12, hf⟩ := gi_bind hf
        refine gi_EvF rfl (gi_fI_inv qy12) ?_
        cases hf
        exact gi_EvR rfl rfl
      rw [if_neg c11] at hf
      by_cases c13 : x1 = 4
      · rw [if_pos c13] at hf
        refine gi_EvTs (t := 126) rfl (gi_sw_at c13 (by decide)) ?_
        refine gi_EvN 1 (pc' := 127) (lv' := [some (.ref x0), some (.int x1)]) (st' := [.ref x0]) (h' := h) rfl ?_
        obtain ⟨y14, qy14, hf⟩ := gi_bind hf
        refine gi_EvF rfl (gi_fR_inv qy14) ?_
        refine gi_EvN 1 (pc' := 132) (lv' := [some (.ref x0), some (.int x1)]) (st' := [.int 12, .ref y14]) (h' := h) rfl ?_
        obtain ⟨y15, qy15, hf⟩ := gi_bind hf
        refine gi_EvAi rfl qy15 ?_
        cases hf
        exact gi_EvR rfl rfl
      rw [if_neg c13] at hf
      by_cases c16 : x1 = 5
      · rw [if_pos c16] at hf
        refine gi_EvTs (t := 134) rfl (gi_sw_at c16 (by decide)) ?_
        refine gi_EvN 1 (pc' := 135) (lv' := [some (.ref x0), some (.int x1)]) (st' := [.ref x0]) (h' := h) rfl ?_
        obtain ⟨y17, qy17, hf⟩ := gi_bind hf
        refine gi_EvF rfl (gi_fR_inv qy17) ?_
        refine gi_EvN 1 (pc' := 140) (lv' := [some (.ref x0), some (.int x1)]) (st' := [.int 13, .ref y17]) (h' := h) rfl ?_
        obtain ⟨y18, qy18, hf⟩ := gi_bind hf
        refine gi_EvAi rfl qy18 ?_
        cases hf
        exact gi_EvR rfl rfl
      rw [if_neg c16] at hf
      have ic3 := lv_neT c3 (show (0 : Int32).toInt = 0 by decide)
      have ic5 := lv_neT c5 (show (1 : Int32).toInt = 1 by decide)
      have ic8 := lv_neT c8 (show (2 : Int32).toInt = 2 by decide)
      have ic11 := lv_neT c11 (show (3 : Int32).toInt = 3 by decide)
      have ic13 := lv_neT c13 (show (4 : Int32).toInt = 4 by decide)
      have ic16 := lv_neT c16 (show (5 : Int32).toInt = 5 by decide)
      refine gi_EvTs (t := 142) rfl (gi_sw_out (by omega) (by decide)) ?_
      refine gi_EvN 2 (pc' := 145) (lv' := [some (.ref x0), some (.int x1)]) (st' := [.int 6, .int x1]) (h' := h) rfl ?_
      refine gi_Ev_ine rfl (fun c19 => ?_) (fun c19 => ?_)
      · rw [if_pos c19] at hf
        refine gi_EvN 1 (pc' := 149) (lv' := [some (.ref x0), some (.int x1)]) (st' := [.ref x0]) (h' := h) rfl ?_
        obtain ⟨y20, qy20, hf⟩ := gi_bind hf
        refine gi_EvF rfl (gi_fR_inv qy20) ?_
        refine gi_EvN 1 (pc' := 154) (lv' := [some (.ref x0), some (.int x1)]) (st' := [.int 14, .ref y20]) (h' := h) rfl ?_
        obtain ⟨y21, qy21, hf⟩ := gi_bind hf
        refine gi_EvAi rfl qy21 ?_
        refine gi_EvN 1 (pc' := 160) (lv' := [some (.ref x0), some (.int x1)]) (st' := [.int y21]) (h' := h) rfl ?_
        cases hf
        exact gi_EvR rfl rfl
      · rw [if_neg c19] at hf
        refine gi_EvN 1 (pc' := 160) (lv' := [some (.ref x0), some (.int x1)]) (st' := [.int (-2)]) (h' := h) rfl ?_
        cases hf
        exact gi_EvR rfl rfl
    · rw [if_neg c2] at hf
      refine gi_EvN 3 (pc' := 41) (lv' := [some (.ref x0), some (.int x1)]) (st' := [.int (x1 - 10)]) (h' := h) rfl ?_
      obtain ⟨y22, qy22, hf⟩ := gi_bind hf
      refine gi_EvCS rfl rfl rfl rfl rfl (e_X6_isBuyer h _ _ qy22) ?_
      show gi_Ev M_X6_told 44 [some (.ref x0), some (.int x1)] [.int y22] h _
      refine gi_Ev_eq rfl (fun c23 => ?_) (fun c23 => ?_)
      · rw [if_pos c23] at hf
        refine gi_EvN 1 (pc' := 60) (lv' := [some (.ref x0), some (.int x1)]) (st' := [.int (-2)]) (h' := h) rfl ?_
        cases hf
        exact gi_EvR rfl rfl
      · rw [if_neg c23] at hf
        refine gi_EvN 1 (pc' := 48) (lv' := [some (.ref x0), some (.int x1)]) (st' := [.ref x0]) (h' := h) rfl ?_
        obtain ⟨y24, qy24, hf⟩ := gi_bind hf
        refine gi_EvF rfl (gi_fR_inv qy24) ?_
        refine gi_EvN 3 (pc' := 54) (lv' := [some (.ref x0), some (.int x1)]) (st' := [.int (x1 - 4), .ref y24]) (h' := h) rfl ?_
        obtain ⟨y25, qy25, hf⟩ := gi_bind hf
        refine gi_EvAi rfl qy25 ?_
        refine gi_EvN 1 (pc' := 60) (lv' := [some (.ref x0), some (.int x1)]) (st' := [.int y25]) (h' := h) rfl ?_
        cases hf
        exact gi_EvR rfl rfl
  · rw [if_neg c1] at hf
    refine gi_EvN 3 (pc' := 10) (lv' := [some (.ref x0), some (.int x1)]) (st' := [.int (x1 - 20)]) (h' := h) rfl ?_
    obtain ⟨y26, qy26, hf⟩ := gi_bind hf
    refine gi_EvCS rfl rfl rfl rfl rfl (e_X6_isLife h _ _ qy26) ?_
    show gi_Ev M_X6_told 13 [some (.ref x0), some (.int x1)] [.int y26] h _
    refine gi_Ev_eq rfl (fun c27 => ?_) (fun c27 => ?_)
    · rw [if_pos c27] at hf
      refine gi_EvN 1 (pc' := 30) (lv' := [some (.ref x0), some (.int x1)]) (st' := [.int (-2)]) (h' := h) rfl ?_
      cases hf
      exact gi_EvR rfl rfl
    · rw [if_neg c27] at hf
      refine gi_EvN 1 (pc' := 17) (lv' := [some (.ref x0), some (.int x1)]) (st' := [.ref x0]) (h' := h) rfl ?_
      obtain ⟨y28, qy28, hf⟩ := gi_bind hf
      refine gi_EvF rfl (gi_fR_inv qy28) ?_
      refine gi_EvN 3 (pc' := 24) (lv' := [some (.ref x0), some (.int x1)]) (st' := [.int (x1 - 20), .ref y28]) (h' := h) rfl ?_
      obtain ⟨y29, qy29, hf⟩ := gi_bind hf
      refine gi_EvAi rfl qy29 ?_
      refine gi_EvN 1 (pc' := 30) (lv' := [some (.ref x0), some (.int x1)]) (st' := [.int y29]) (h' := h) rfl ?_
      cases hf
      exact gi_EvR rfl rfl
