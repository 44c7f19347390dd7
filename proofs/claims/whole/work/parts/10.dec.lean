/-! X0_init AdmiralGuinea$Book.<init>()V -/
def f_X0_init_73 (h : gi_H) (x0 : Nat) : Option gi_H :=
  (gi_new h (gi_na 0 12)).bind fun h1 => (gi_fp h1 x0 0 8 (.ref (List.length h))).bind fun h2 => (gi_new h2 (gi_na 0 12)).bind fun h3 => (gi_fp h3 x0 0 9 (.ref (List.length h2))).bind fun h4 => (gi_new h4 (gi_na 0 12)).bind fun h5 => (gi_fp h5 x0 0 10 (.ref (List.length h4))).bind fun h6 => (gi_new h6 (gi_na 0 12)).bind fun h7 => (gi_fp h7 x0 0 11 (.ref (List.length h6))).bind fun h8 => (gi_new h8 (gi_na 0 8)).bind fun h9 => (gi_fp h9 x0 0 12 (.ref (List.length h8))).bind fun h10 => (gi_new h10 (gi_na 0 8)).bind fun h11 => (gi_fp h11 x0 0 13 (.ref (List.length h10))).bind fun h12 => (gi_new h12 (gi_na 0 8)).bind fun h13 => (gi_fp h13 x0 0 14 (.ref (List.length h12))).bind fun h14 => some h14
set_option maxRecDepth 20000 in
set_option maxHeartbeats 2000000 in
theorem e_X0_init_73 (g1 : Option Value) (h : gi_H) (x0 : Nat) (r : gi_H) (hf : f_X0_init_73 h x0 = some r) : gi_Ev M_X0_init 73 [some (.ref x0), g1] [] h (none, r) := by
  unfold f_X0_init_73 at hf
  refine gi_EvN 2 (pc' := 76) (lv' := [some (.ref x0), g1]) (st' := [.int 12, .ref x0]) (h' := h) rfl ?_
  obtain ⟨h1, qh1, hf⟩ := gi_bind hf
  refine gi_EvNwa (N := 12) rfl (by decide) (by decide) (by decide) qh1 ?_
  obtain ⟨h2, qh2, hf⟩ := gi_bind hf
  refine gi_EvFp rfl rfl qh2 ?_
  refine gi_EvN 2 (pc' := 84) (lv' := [some (.ref x0), g1]) (st' := [.int 12, .ref x0]) (h' := h2) rfl ?_
  obtain ⟨h3, qh3, hf⟩ := gi_bind hf
  refine gi_EvNwa (N := 12) rfl (by decide) (by decide) (by decide) qh3 ?_
  obtain ⟨h4, qh4, hf⟩ := gi_bind hf
  refine gi_EvFp rfl rfl qh4 ?_
  refine gi_EvN 2 (pc' := 92) (lv' := [some (.ref x0), g1]) (st' := [.int 12, .ref x0]) (h' := h4) rfl ?_
  obtain ⟨h5, qh5, hf⟩ := gi_bind hf
  refine gi_EvNwa (N := 12) rfl (by decide) (by decide) (by decide) qh5 ?_
  obtain ⟨h6, qh6, hf⟩ := gi_bind hf
  refine gi_EvFp rfl rfl qh6 ?_
  refine gi_EvN 2 (pc' := 100) (lv' := [some (.ref x0), g1]) (st' := [.int 12, .ref x0]) (h' := h6) rfl ?_
  obtain ⟨h7, qh7, hf⟩ := gi_bind hf
  refine gi_EvNwa (N := 12) rfl (by decide) (by decide) (by decide) qh7 ?_
  obtain ⟨h8, qh8, hf⟩ := gi_bind hf
  refine gi_EvFp rfl rfl qh8 ?_
  refine gi_EvN 2 (pc' := 108) (lv' := [some (.ref x0), g1]) (st' := [.int 8, .ref x0]) (h' := h8) rfl ?_
  obtain ⟨h9, qh9, hf⟩ := gi_bind hf
  refine gi_EvNwa (N := 8) rfl (by decide) (by decide) (by decide) qh9 ?_
  obtain ⟨h10, qh10, hf⟩ := gi_bind hf
  refine gi_EvFp rfl rfl qh10 ?_
  refine gi_EvN 2 (pc' := 116) (lv' := [some (.ref x0), g1]) (st' := [.int 8, .ref x0]) (h' := h10) rfl ?_
  obtain ⟨h11, qh11, hf⟩ := gi_bind hf
  refine gi_EvNwa (N := 8) rfl (by decide) (by decide) (by decide) qh11 ?_
  obtain ⟨h12, qh12, hf⟩ := gi_bind hf
  refine gi_EvFp rfl rfl qh12 ?_
  refine gi_EvN 2 (pc' := 124) (lv' := [some (.ref x0), g1]) (st' := [.int 8, .ref x0]) (h' := h12) rfl ?_
  obtain ⟨h13, qh13, hf⟩ := gi_bind hf
  refine gi_EvNwa (N := 8) rfl (by decide) (by decide) (by decide) qh13 ?_
  obtain ⟨h14, qh14, hf⟩ := gi_bind hf
  refine gi_EvFp rfl rfl qh14 ?_
  cases hf
  exact gi_EvR rfl rfl
def f_X0_init_54 : Nat → gi_H → Nat → Int32 → Option gi_H
  | 0, _, _, _ => none
  | n + 1, h, x0, x1 => if 4 ≤ x1 then f_X0_init_73 h x0
  else (gi_fR h x0 0 7).bind fun y2 => (gi_pi h y2 0 x1 100).bind fun h3 => f_X0_init_54 n h3 x0 (x1 + 1)
set_option maxRecDepth 20000 in
set_option maxHeartbeats 2000000 in
theorem e_X0_init_54 : ∀ (n : Nat) (h : gi_H) (x0 : Nat) (x1 : Int32) (r : gi_H), f_X0_init_54 n h x0 x1 = some r → gi_Ev M_X0_init 54 [some (.ref x0), some (.int x1)] [] h (none, r) := by
  intro n
  induction n with
  | zero =>
    intro h x0 x1 r hf
    unfold f_X0_init_54 at hf
    cases hf
  | succ n ih =>
    intro h x0 x1 r hf
    unfold f_X0_init_54 at hf
    refine gi_EvN 2 (pc' := 56) (lv' := [some (.ref x0), some (.int x1)]) (st' := [.int 4, .int x1]) (h' := h) rfl ?_
    refine gi_Ev_ige rfl (fun c1 => ?_) (fun c1 => ?_)
    · rw [if_pos c1] at hf
      exact e_X0_init_73 _ h _ _ hf
    · rw [if_neg c1] at hf
      refine gi_EvN 1 (pc' := 60) (lv' := [some (.ref x0), some (.int x1)]) (st' := [.ref x0]) (h' := h) rfl ?_
      obtain ⟨y2, qy2, hf⟩ := gi_bind hf
      refine gi_EvF rfl (gi_fR_inv qy2) ?_
      refine gi_EvN 2 (pc' := 66) (lv' := [some (.ref x0), some (.int x1)]) (st' := [.int 100, .int x1, .ref y2]) (h' := h) rfl ?_
      obtain ⟨h3, qh3, hf⟩ := gi_bind hf
      refine gi_EvPi rfl qh3 ?_
      refine gi_EvN 2 (pc' := 54) (lv' := [some (.ref x0), some (.int (x1 + 1))]) (st' := []) (h' := h3) rfl ?_
      exact ih  _ _  _ _ hf
def f_X0_init_45 (h : gi_H) (x0 : Nat) : Option gi_H :=
  (gi_new h (gi_na 0 4)).bind fun h1 => (gi_fp h1 x0 0 7 (.ref (List.length h))).bind fun h2 => f_X0_init_54 gi_F h2 x0 0
set_option maxRecDepth 20000 in
set_option maxHeartbeats 2000000 in
theorem e_X0_init_45 (g1 : Option Value) (h : gi_H) (x0 : Nat) (r : gi_H) (hf : f_X0_init_45 h x0 = some r) : gi_Ev M_X0_init 45 [some (.ref x0), g1] [] h (none, r) := by
  unfold f_X0_init_45 at hf
  refine gi_EvN 2 (pc' := 47) (lv' := [some (.ref x0), g1]) (st' := [.int 4, .ref x0]) (h' := h) rfl ?_
  obtain ⟨h1, qh1, hf⟩ := gi_bind hf
  refine gi_EvNwa (N := 4) rfl (by decide) (by decide) (by decide) qh1 ?_
  obtain ⟨h2, qh2, hf⟩ := gi_bind hf
  refine gi_EvFp rfl rfl qh2 ?_
  refine gi_EvN 2 (pc' := 54) (lv' := [some (.ref x0), some (.int 0)]) (st' := []) (h' := h2) rfl ?_
  exact e_X0_init_54 gi_F h2 _ _ _ hf
def f_X0_init_26 : Nat → gi_H → Nat → Int32 → Option gi_H
  | 0, _, _, _ => none
  | n + 1, h, x0, x1 => if 6 ≤ x1 then f_X0_init_45 h x0
  else (gi_fR h x0 0 6).bind fun y2 => (gi_pi h y2 0 x1 1).bind fun h3 => f_X0_init_26 n h3 x0 (x1 + 1)
set_option maxRecDepth 20000 in
set_option maxHeartbeats 2000000 in
theorem e_X0_init_26 : ∀ (n : Nat) (h : gi_H) (x0 : Nat) (x1 : Int32) (r : gi_H), f_X0_init_26 n h x0 x1 = some r → gi_Ev M_X0_init 26 [some (.ref x0), some (.int x1)] [] h (none, r) := by
  intro n
  induction n with
  | zero =>
    intro h x0 x1 r hf
    unfold f_X0_init_26 at hf
    cases hf
  | succ n ih =>
    intro h x0 x1 r hf
    unfold f_X0_init_26 at hf
    refine gi_EvN 2 (pc' := 29) (lv' := [some (.ref x0), some (.int x1)]) (st' := [.int 6, .int x1]) (h' := h) rfl ?_
    refine gi_Ev_ige rfl (fun c1 => ?_) (fun c1 => ?_)
    · rw [if_pos c1] at hf
      exact e_X0_init_45 _ h _ _ hf
    · rw [if_neg c1] at hf
      refine gi_EvN 1 (pc' := 33) (lv' := [some (.ref x0), some (.int x1)]) (st' := [.ref x0]) (h' := h) rfl ?_
      obtain ⟨y2, qy2, hf⟩ := gi_bind hf
      refine gi_EvF rfl (gi_fR_inv qy2) ?_
      refine gi_EvN 2 (pc' := 38) (lv' := [some (.ref x0), some (.int x1)]) (st' := [.int 1, .int x1, .ref y2]) (h' := h) rfl ?_
      obtain ⟨h3, qh3, hf⟩ := gi_bind hf
      refine gi_EvPi rfl qh3 ?_
      refine gi_EvN 2 (pc' := 26) (lv' := [some (.ref x0), some (.int (x1 + 1))]) (st' := []) (h' := h3) rfl ?_
      exact ih  _ _  _ _ hf
def f_X0_init (h : gi_H) (x0 : Nat) : Option gi_H :=
  (gi_fp h x0 0 0 (.int 0)).bind fun h1 => (gi_fp h1 x0 0 1 (.int 1000)).bind fun h2 => (gi_new h2 (gi_na 0 6)).bind fun h3 => (gi_fp h3 x0 0 6 (.ref (List.length h2))).bind fun h4 => f_X0_init_26 gi_F h4 x0 0
set_option maxRecDepth 20000 in
set_option maxHeartbeats 2000000 in
theorem e_X0_init (h : gi_H) (x0 : Nat) (r : gi_H) (hf : f_X0_init h x0 = some r) : gi_Ev M_X0_init 0 [some (.ref x0), none] [] h (none, r) := by
  unfold f_X0_init at hf
  refine gi_EvN 4 (pc' := 6) (lv' := [some (.ref x0), none]) (st' := [.int 0, .ref x0]) (h' := h) rfl ?_
  obtain ⟨h1, qh1, hf⟩ := gi_bind hf
  refine gi_EvFp rfl rfl qh1 ?_
  refine gi_EvN 2 (pc' := 13) (lv' := [some (.ref x0), none]) (st' := [.int 1000, .ref x0]) (h' := h1) rfl ?_
  obtain ⟨h2, qh2, hf⟩ := gi_bind hf
  refine gi_EvFp rfl rfl qh2 ?_
  refine gi_EvN 2 (pc' := 19) (lv' := [some (.ref x0), none]) (st' := [.int 6, .ref x0]) (h' := h2) rfl ?_
  obtain ⟨h3, qh3, hf⟩ := gi_bind hf
  refine gi_EvNwa (N := 6) rfl (by decide) (by decide) (by decide) qh3 ?_
  obtain ⟨h4, qh4, hf⟩ := gi_bind hf
  refine gi_EvFp rfl rfl qh4 ?_
  refine gi_EvN 2 (pc' := 26) (lv' := [some (.ref x0), some (.int 0)]) (st' := []) (h' := h4) rfl ?_
  exact e_X0_init_26 gi_F h4 _ _ _ hf
/-! X0_copyFrom AdmiralGuinea$Book.copyFrom(LAdmiralGuinea$Book;)V -/
def f_X0_copyFrom (h : gi_H) (x0 : Nat) (x1 : Nat) : Option gi_H :=
  (gi_fI h x1 0 0).bind fun y1 => (gi_fp h x0 0 0 (.int y1)).bind fun h2 => (gi_fI h2 x1 0 1).bind fun y3 => (gi_fp h2 x0 0 1 (.int y3)).bind fun h4 => (gi_fI h4 x1 0 2).bind fun y5 => (gi_fp h4 x0 0 2 (.int y5)).bind fun h6 => (gi_fI h6 x1 0 3).bind fun y7 => (gi_fp h6 x0 0 3 (.int y7)).bind fun h8 => (gi_fI h8 x1 0 4).bind fun y9 => (gi_fp h8 x0 0 4 (.int y9)).bind fun h10 => (gi_fI h10 x1 0 5).bind fun y11 => (gi_fp h10 x0 0 5 (.int y11)).bind fun h12 => (gi_fR h12 x1 0 6).bind fun y13 => (gi_fR h12 x0 0 6).bind fun y14 => (gi_cp h12 y13 0 y14 0 6).bind fun h15 => (gi_fR h15 x1 0 7).bind fun y16 => (gi_fR h15 x0 0 7).bind fun y17 => (gi_cp h15 y16 0 y17 0 4).bind fun h18 => (gi_fR h18 x1 0 8).bind fun y19 => (gi_fR h18 x0 0 8).bind fun y20 => (gi_cp h18 y19 0 y20 0 12).bind fun h21 => (gi_fR h21 x1 0 9).bind fun y22 => (gi_fR h21 x0 0 9).bind fun y23 => (gi_cp h21 y22 0 y23 0 12).bind fun h24 => (gi_fR h24 x1 0 10).bind fun y25 => (gi_fR h24 x0 0 10).bind fun y26 => (gi_cp h24 y25 0 y26 0 12).bind fun h27 => (gi_fR h27 x1 0 11).bind fun y28 => (gi_fR h27 x0 0 11).bind fun y29 => (gi_cp h27 y28 0 y29 0 12).bind fun h30 => (gi_fR h30 x1 0 12).bind fun y31 => (gi_fR h30 x0 0 12).bind fun y32 => (gi_cp h30 y31 0 y32 0 8).bind fun h33 => (gi_fR h33 x1 0 13).bind fun y34 => (gi_fR h33 x0 0 13).bind fun y35 => (gi_cp h33 y34 0 y35 0 8).bind fun h36 => (gi_fR h36 x1 0 14).bind fun y37 => (gi_fR h36 x0 0 14).bind fun y38 => (gi_cp h36 y37 0 y38 0 8).bind fun h39 => some h39
set_option maxRecDepth 20000 in
set_option maxHeartbeats 2000000 in
theorem e_X0_copyFrom (h : gi_H) (x0 : Nat) (x1 : Nat) (r : gi_H) (hf : f_X0_copyFrom h x0 x1 = some r) : gi_Ev M_X0_copyFrom 0 [some (.ref x0), some (.ref x1)] [] h (none, r) := by
  unfold f_X0_copyFrom at hf
  refine gi_EvN 2 (pc' := 2) (lv' := [some (.ref x0), some (.ref x1)]) (st' := [.ref x1, .ref x0]) (h' := h) rfl ?_
  obtain ⟨y1, qy1, hf⟩ := gi_bind hf
  refine gi_EvF rfl (gi_fI_inv qy1) ?_
  obtain ⟨h2, qh2, hf⟩ := gi_bind hf
  refine gi_EvFp rfl rfl qh2 ?_
  refine gi_EvN 2 (pc' := 10) (lv' := [some (.ref x0), some (.ref x1)]) (st' := [.ref x1, .ref x0]) (h' := h2) rfl ?_
  obtain ⟨y3, qy3, hf⟩ := gi_bind hf
  refine gi_EvF rfl (gi_fI_inv qy3) ?_
  obtain ⟨h4, qh4, hf⟩ := gi_bind hf
  refine gi_EvFp rfl rfl qh4 ?_
  refine gi_EvN 2 (pc' := 18) (lv' := [some (.ref x0), some (.ref x1)]) (st' := [.ref x1, .ref x0]) (h' := h4) rfl ?_
  obtain ⟨y5, qy5, hf⟩ := gi_bind hf
  refine gi_EvF rfl (gi_fI_inv qy5) ?_
  obtain ⟨h6, qh6, hf⟩ := gi_bind hf
  refine gi_EvFp rfl rfl qh6 ?_
  refine gi_EvN 2 (pc' := 26) (lv' := [some (.ref x0), some (.ref x1)]) (st' := [.ref x1, .ref x0]) (h' := h6) rfl ?_
  obtain ⟨y7, qy7, hf⟩ := gi_bind hf
  refine gi_EvF rfl (gi_fI_inv qy7) ?_
  obtain ⟨h8, qh8, hf⟩ := gi_bind hf
  refine gi_EvFp rfl rfl qh8 ?_
  refine gi_EvN 2 (pc' := 34) (lv' := [some (.ref x0), some (.ref x1)]) (st' := [.ref x1, .ref x0]) (h' := h8) rfl ?_
  obtain ⟨y9, qy9, hf⟩ := gi_bind hf
  refine gi_EvF rfl (gi_fI_inv qy9) ?_
  obtain ⟨h10, qh10, hf⟩ := gi_bind hf
  refine gi_EvFp rfl rfl qh10 ?_
  refine gi_EvN 2 (pc' := 42) (lv' := [some (.ref x0), some (.ref x1)]) (st' := [.ref x1, .ref x0]) (h' := h10) rfl ?_
  obtain ⟨y11, qy11, hf⟩ := gi_bind hf
  refine gi_EvF rfl (gi_fI_inv qy11) ?_
  obtain ⟨h12, qh12, hf⟩ := gi_bind hf
  refine gi_EvFp rfl rfl qh12 ?_
  refine gi_EvN 1 (pc' := 49) (lv' := [some (.ref x0), some (.ref x1)]) (st' := [.ref x1]) (h' := h12) rfl ?_
  obtain ⟨y13, qy13, hf⟩ := gi_bind hf
  refine gi_EvF rfl (gi_fR_inv qy13) ?_
  refine gi_EvN 2 (pc' := 54) (lv' := [some (.ref x0), some (.ref x1)]) (st' := [.ref x0, .int 0, .ref y13]) (h' := h12) rfl ?_
  obtain ⟨y14, qy14, hf⟩ := gi_bind hf
  refine gi_EvF rfl (gi_fR_inv qy14) ?_
  refine gi_EvN 2 (pc' := 60) (lv' := [some (.ref x0), some (.ref x1)]) (st' := [.int 6, .int 0, .ref y14, .int 0, .ref y13]) (h' := h12) rfl ?_
  obtain ⟨h15, qh15, hf⟩ := gi_bind hf
  refine gi_EvCp rfl rfl qh15 ?_
  refine gi_EvN 1 (pc' := 64) (lv' := [some (.ref x0), some (.ref x1)]) (st' := [.ref x1]) (h' := h15) rfl ?_
  obtain ⟨y16, qy16, hf⟩ := gi_bind hf
  refine gi_EvF rfl (gi_fR_inv qy16) ?_
  refine gi_EvN 2 (pc' := 69) (lv' := [some (.ref x0), some (.ref x1)]) (st' := [.ref x0, .int 0, .ref y16]) (h' := h15) rfl ?_
  obtain ⟨y17, qy17, hf⟩ := gi_bind hf
  refine gi_EvF rfl (gi_fR_inv qy17) ?_
  refine gi_EvN 2 (pc' := 74) (lv' := [some (.ref x0), some (.ref x1)]) (st' := [.int 4, .int 0, .ref y17, .int 0, .ref y16]) (h' := h15) rfl ?_
  obtain ⟨h18, qh18, hf⟩ := gi_bind hf
  refine gi_EvCp rfl rfl qh18 ?_
  refine gi_EvN 1 (pc' := 78) (lv' := [some (.ref x0), some (.ref x1)]) (st' := [.ref x1]) (h' := h18) rfl ?_
  obtain ⟨y19, qy19, hf⟩ := gi_bind hf
  refine gi_EvF rfl (gi_fR_inv qy19) ?_
  refine gi_EvN 2 (pc' := 83) (lv' := [some (.ref x0), some (.ref x1)]) (st' := [.ref x0, .int 0, .ref y19]) (h' := h18) rfl ?_
  obtain ⟨y20, qy20, hf⟩ := gi_bind hf
  refine gi_EvF rfl (gi_fR_inv qy20) ?_
  refine gi_EvN 2 (pc' := 89) (lv' := [some (.ref x0), some (.ref x1)]) (st' := [.int 12, .int 0, .ref y20, .int 0, .ref y19]) (h' := h18) rfl ?_
  obtain ⟨h21, qh21, hf⟩ := gi_bind hf
  refine gi_EvCp rfl rfl qh21 ?_
  refine gi_EvN 1 (pc' := 93) (lv' := [some (.ref x0), some (.ref x1)]) (st' := [.ref x1]) (h' := h21) rfl ?_
  obtain ⟨y22, qy22, hf⟩ := gi_bind hf
  refine gi_EvF rfl (gi_fR_inv qy22) ?_
  refine gi_EvN 2 (pc' := 98) (lv' := [some (.ref x0), some (.ref x1)]) (st' := [.ref x0, .int 0, .ref y22]) (h' := h21) rfl ?_
  obtain ⟨y23, qy23, hf⟩ := gi_bind hf
  refine gi_EvF rfl (gi_fR_inv qy23) ?_
  refine gi_EvN 2 (pc' := 104) (lv' := [some (.ref x0), some (.ref x1)]) (st' := [.int 12, .int 0, .ref y23, .int 0, .ref y22]) (h' := h21) rfl ?_
  obtain ⟨h24, qh24, hf⟩ := gi_bind hf
  refine gi_EvCp rfl rfl qh24 ?_
  refine gi_EvN 1 (pc' := 108) (lv' := [some (.ref x0), some (.ref x1)]) (st' := [.ref x1]) (h' := h24) rfl ?_
  obtain ⟨y25, qy25, hf⟩ := gi_bind hf
  refine gi_EvF rfl (gi_fR_inv qy25) ?_
  refine gi_EvN 2 (pc' := 113) (lv' := [some (.ref x0), some (.ref x1)]) (st' := [.ref x0, .int 0, .ref y25]) (h' := h24) rfl ?_
  obtain ⟨y26, qy26, hf⟩ := gi_bind hf
  refine gi_EvF rfl (gi_fR_inv qy26) ?_
  refine gi_EvN 2 (pc' := 119) (lv' := [some (.ref x0), some (.ref x1)]) (st' := [.int 12, .int 0, .ref y26, .int 0, .ref y25]) (h' := h24) rfl ?_
  obtain ⟨h27, qh27, hf⟩ := gi_bind hf
  refine gi_EvCp rfl rfl qh27 ?_
  refine gi_EvN 1 (pc' := 123) (lv' := [some (.ref x0), some (.ref x1)]) (st' := [.ref x1]) (h' := h27) rfl ?_
  obtain ⟨y28, qy28, hf⟩ := gi_bind hf
  refine gi_EvF rfl (gi_fR_inv qy28) ?_
  refine gi_EvN 2 (pc' := 128) (lv' := [some (.ref x0), some (.ref x1)]) (st' := [.ref x0, .int 0, .ref y28]) (h' := h27) rfl ?_
  obtain ⟨y29, qy29, hf⟩ := gi_bind hf
  refine gi_EvF rfl (gi_fR_inv qy29) ?_
  refine gi_EvN 2 (pc' := 134) (lv' := [some (.ref x0), some (.ref x1)]) (st' := [.int 12, .int 0, .ref y29, .int 0, .ref y28]) (h' := h27) rfl ?_
  obtain ⟨h30, qh30, hf⟩ := gi_bind hf
  refine gi_EvCp rfl rfl qh30 ?_
  refine gi_EvN 1 (pc' := 138) (lv' := [some (.ref x0), some (.ref x1)]) (st' := [.ref x1]) (h' := h30) rfl ?_
  obtain ⟨y31, qy31, hf⟩ := gi_bind hf
  refine gi_EvF rfl (gi_fR_inv qy31) ?_
  refine gi_EvN 2 (pc' := 143) (lv' := [some (.ref x0), some (.ref x1)]) (st' := [.ref x0, .int 0, .ref y31]) (h' := h30) rfl ?_
  obtain ⟨y32, qy32, hf⟩ := gi_bind hf
  refine gi_EvF rfl (gi_fR_inv qy32) ?_
  refine gi_EvN 2 (pc' := 149) (lv' := [some (.ref x0), some (.ref x1)]) (st' := [.int 8, .int 0, .ref y32, .int 0, .ref y31]) (h' := h30) rfl ?_
  obtain ⟨h33, qh33, hf⟩ := gi_bind hf
  refine gi_EvCp rfl rfl qh33 ?_
  refine gi_EvN 1 (pc' := 153) (lv' := [some (.ref x0), some (.ref x1)]) (st' := [.ref x1]) (h' := h33) rfl ?_
  obtain ⟨y34, qy34, hf⟩ := gi_bind hf
  refine gi_EvF rfl (gi_fR_inv qy34) ?_
  refine gi_EvN 2 (pc' := 158) (lv' := [some (.ref x0), some (.ref x1)]) (st' := [.ref x0, .int 0, .ref y34]) (h' := h33) rfl ?_
  obtain ⟨y35, qy35, hf⟩ := gi_bind hf
  refine gi_EvF rfl (gi_fR_inv qy35) ?_
  refine gi_EvN 2 (pc' := 164) (lv' := [some (.ref x0), some (.ref x1)]) (st' := [.int 8, .int 0, .ref y35, .int 0, .ref y34]) (h' := h33) rfl ?_
  obtain ⟨h36, qh36, hf⟩ := gi_bind hf
  refine gi_EvCp rfl rfl qh36 ?_
  refine gi_EvN 1 (pc' := 168) (lv' := [some (.ref x0), some (.ref x1)]) (st' := [.ref x1]) (h' := h36) rfl ?_
  obtain ⟨y37, qy37, hf⟩ := gi_bind hf
  refine gi_EvF rfl (gi_fR_inv qy37) ?_
  refine gi_EvN 2 (pc' := 173) (lv' := [some (.ref x0), some (.ref x1)]) (st' := [.ref x0, .int 0, .ref y37]) (h' := h36) rfl ?_
  obtain ⟨y38, qy38, hf⟩ := gi_bind hf
  refine gi_EvF rfl (gi_fR_inv qy38) ?_
  refine gi_EvN 2 (pc' := 179) (lv' := [some (.ref x0), some (.ref x1)]) (st' := [.int 8, .int 0, .ref y38, .int 0, .ref y37]) (h' := h36) rfl ?_
  obtain ⟨h39, qh39, hf⟩ := gi_bind hf
  refine gi_EvCp rfl rfl qh39 ?_
  cases hf
  exact gi_EvR rfl rfl
/-! X0_hasEnded AdmiralGuinea$Book.hasEnded(I)Z -/
def f_X0_hasEnded (h : gi_H) (x0 : Nat) (x1 : Int32) : Option Int32 :=
  (gi_fI h x0 0 2).bind fun y1 => if ((y1 >>> (x1 &&& 31)) &&& 1) = 0 then some (0)
  else some (1)
set_option maxRecDepth 20000 in
set_option maxHeartbeats 2000000 in
theorem e_X0_hasEnded (h : gi_H) (x0 : Nat) (x1 : Int32) (r : Int32) (hf : f_X0_hasEnded h x0 x1 = some r) : gi_Ev M_X0_hasEnded 0 [some (.ref x0), some (.int x1)] [] h (some (.int r), h) := by
  unfold f_X0_hasEnded at hf
  refine gi_EvN 1 (pc' := 1) (lv' := [some (.ref x0), some (.int x1)]) (st' := [.ref x0]) (h' := h) rfl ?_
  obtain ⟨y1, qy1, hf⟩ := gi_bind hf
  refine gi_EvF rfl (gi_fI_inv qy1) ?_
  refine gi_EvN 4 (pc' := 8) (lv' := [some (.ref x0), some (.int x1)]) (st' := [.int ((y1 >>> (x1 &&& 31)) &&& 1)]) (h' := h) rfl ?_
  refine gi_Ev_eq rfl (fun c2 => ?_) (fun c2 => ?_)
  · rw [if_pos c2] at hf
    refine gi_EvN 1 (pc' := 16) (lv' := [some (.ref x0), some (.int x1)]) (st' := [.int 0]) (h' := h) rfl ?_
    cases hf
    exact gi_EvR rfl rfl
  · rw [if_neg c2] at hf
    refine gi_EvN 2 (pc' := 16) (lv' := [some (.ref x0), some (.int x1)]) (st' := [.int 1]) (h' := h) rfl ?_
    cases hf
    exact gi_EvR rfl rfl
/-! J6_bitCount_0f7a4 java/lang/Integer.bitCount(I)I -/
def f_J6_bitCount_0f7a4 (x0 : Int32) : Option Int32 :=
  some (((((((((x0 - ((Int32.toUInt32 x0 >>> (Int32.toUInt32 1 &&& Int32.toUInt32 31)).toInt32 &&& 1431655765)) &&& 858993459) + ((Int32.toUInt32 (x0 - ((Int32.toUInt32 x0 >>> (Int32.toUInt32 1 &&& Int32.toUInt32 31)).toInt32 &&& 1431655765)) >>> (Int32.toUInt32 2 &&& Int32.toUInt32 31)).toInt32 &&& 858993459)) + (Int32.toUInt32 (((x0 - ((Int32.toUInt32 x0 >>> (Int32.toUInt32 1 &&& Int32.toUInt32 31)).toInt32 &&& 1431655765)) &&& 858993459) + ((Int32.toUInt32 (x0 - ((Int32.toUInt32 x0 >>> (Int32.toUInt32 1 &&& Int32.toUInt32 31)).toInt32 &&& 1431655765)) >>> (Int32.toUInt32 2 &&& Int32.toUInt32 31)).toInt32 &&& 858993459)) >>> (Int32.toUInt32 4 &&& Int32.toUInt32 31)).toInt32) &&& 252645135) + (Int32.toUInt32 (((((x0 - ((Int32.toUInt32 x0 >>> (Int32.toUInt32 1 &&& Int32.toUInt32 31)).toInt32 &&& 1431655765)) &&& 858993459) + ((Int32.toUInt32 (x0 - ((Int32.toUInt32 x0 >>> (Int32.toUInt32 1 &&& Int32.toUInt32 31)).toInt32 &&& 1431655765)) >>> (Int32.toUInt32 2 &&& Int32.toUInt32 31)).toInt32 &&& 858993459)) + (Int32.toUInt32 (((x0 - ((Int32.toUInt32 x0 >>> (Int32.toUInt32 1 &&& Int32.toUInt32 31)).toInt32 &&& 1431655765)) &&& 858993459) + ((Int32.toUInt32 (x0 - ((Int32.toUInt32 x0 >>> (Int32.toUInt32 1 &&& Int32.toUInt32 31)).toInt32 &&& 1431655765)) >>> (Int32.toUInt32 2 &&& Int32.toUInt32 31)).toInt32 &&& 858993459)) >>> (Int32.toUInt32 4 &&& Int32.toUInt32 31)).toInt32) &&& 252645135) >>> (Int32.toUInt32 8 &&& Int32.toUInt32 31)).toInt32) + (Int32.toUInt32 ((((((x0 - ((Int32.toUInt32 x0 >>> (Int32.toUInt32 1 &&& Int32.toUInt32 31)).toInt32 &&& 1431655765)) &&& 858993459) + ((Int32.toUInt32 (x0 - ((Int32.toUInt32 x0 >>> (Int32.toUInt32 1 &&& Int32.toUInt32 31)).toInt32 &&& 1431655765)) >>> (Int32.toUInt32 2 &&& Int32.toUInt32 31)).toInt32 &&& 858993459)) + (Int32.toUInt32 (((x0 - ((Int32.toUInt32 x0 >>> (Int32.toUInt32 1 &&& Int32.toUInt32 31)).toInt32 &&& 1431655765)) &&& 858993459) + ((Int32.toUInt32 (x0 - ((Int32.toUInt32 x0 >>> (Int32.toUInt32 1 &&& Int32.toUInt32 31)).toInt32 &&& 1431655765)) >>> (Int32.toUInt32 2 &&& Int32.toUInt32 31)).toInt32 &&& 858993459)) >>> (Int32.toUInt32 4 &&& Int32.toUInt32 31)).toInt32) &&& 252645135) + (Int32.toUInt32 (((((x0 - ((Int32.toUInt32 x0 >>> (Int32.toUInt32 1 &&& Int32.toUInt32 31)).toInt32 &&& 1431655765)) &&& 858993459) + ((Int32.toUInt32 (x0 - ((Int32.toUInt32 x0 >>> (Int32.toUInt32 1 &&& Int32.toUInt32 31)).toInt32 &&& 1431655765)) >>> (Int32.toUInt32 2 &&& Int32.toUInt32 31)).toInt32 &&& 858993459)) + (Int32.toUInt32 (((x0 - ((Int32.toUInt32 x0 >>> (Int32.toUInt32 1 &&& Int32.toUInt32 31)).toInt32 &&& 1431655765)) &&& 858993459) + ((Int32.toUInt32 (x0 - ((Int32.toUInt32 x0 >>> (Int32.toUInt32 1 &&& Int32.toUInt32 31)).toInt32 &&& 1431655765)) >>> (Int32.toUInt32 2 &&& Int32.toUInt32 31)).toInt32 &&& 858993459)) >>> (Int32.toUInt32 4 &&& Int32.toUInt32 31)).toInt32) &&& 252645135) >>> (Int32.toUInt32 8 &&& Int32.toUInt32 31)).toInt32) >>> (Int32.toUInt32 16 &&& Int32.toUInt32 31)).toInt32) &&& 63))
set_option maxRecDepth 20000 in
set_option maxHeartbeats 2000000 in
theorem e_J6_bitCount_0f7a4 (h : gi_H) (x0 : Int32) (r : Int32) (hf : f_J6_bitCount_0f7a4 x0 = some r) : gi_Ev M_J6_bitCount_0f7a4 0 [some (.int x0)] [] h (some (.int r), h) := by
  unfold f_J6_bitCount_0f7a4 at hf
  refine gi_EvN 41 (pc' := 52) (lv' := [some (.int (((((((x0 - ((Int32.toUInt32 x0 >>> (Int32.toUInt32 1 &&& Int32.toUInt32 31)).toInt32 &&& 1431655765)) &&& 858993459) + ((Int32.toUInt32 (x0 - ((Int32.toUInt32 x0 >>> (Int32.toUInt32 1 &&& Int32.toUInt32 31)).toInt32 &&& 1431655765)) >>> (Int32.toUInt32 2 &&& Int32.toUInt32 31)).toInt32 &&& 858993459)) + (Int32.toUInt32 (((x0 - ((Int32.toUInt32 x0 >>> (Int32.toUInt32 1 &&& Int32.toUInt32 31)).toInt32 &&& 1431655765)) &&& 858993459) + ((Int32.toUInt32 (x0 - ((Int32.toUInt32 x0 >>> (Int32.toUInt32 1 &&& Int32.toUInt32 31)).toInt32 &&& 1431655765)) >>> (Int32.toUInt32 2 &&& Int32.toUInt32 31)).toInt32 &&& 858993459)) >>> (Int32.toUInt32 4 &&& Int32.toUInt32 31)).toInt32) &&& 252645135) + (Int32.toUInt32 (((((x0 - ((Int32.toUInt32 x0 >>> (Int32.toUInt32 1 &&& Int32.toUInt32 31)).toInt32 &&& 1431655765)) &&& 858993459) + ((Int32.toUInt32 (x0 - ((Int32.toUInt32 x0 >>> (Int32.toUInt32 1 &&& Int32.toUInt32 31)).toInt32 &&& 1431655765)) >>> (Int32.toUInt32 2 &&& Int32.toUInt32 31)).toInt32 &&& 858993459)) + (Int32.toUInt32 (((x0 - ((Int32.toUInt32 x0 >>> (Int32.toUInt32 1 &&& Int32.toUInt32 31)).toInt32 &&& 1431655765)) &&& 858993459) + ((Int32.toUInt32 (x0 - ((Int32.toUInt32 x0 >>> (Int32.toUInt32 1 &&& Int32.toUInt32 31)).toInt32 &&& 1431655765)) >>> (Int32.toUInt32 2 &&& Int32.toUInt32 31)).toInt32 &&& 858993459)) >>> (Int32.toUInt32 4 &&& Int32.toUInt32 31)).toInt32) &&& 252645135) >>> (Int32.toUInt32 8 &&& Int32.toUInt32 31)).toInt32) + (Int32.toUInt32 ((((((x0 - ((Int32.toUInt32 x0 >>> (Int32.toUInt32 1 &&& Int32.toUInt32 31)).toInt32 &&& 1431655765)) &&& 858993459) + ((Int32.toUInt32 (x0 - ((Int32.toUInt32 x0 >>> (Int32.toUInt32 1 &&& Int32.toUInt32 31)).toInt32 &&& 1431655765)) >>> (Int32.toUInt32 2 &&& Int32.toUInt32 31)).toInt32 &&& 858993459)) + (Int32.toUInt32 (((x0 - ((Int32.toUInt32 x0 >>> (Int32.toUInt32 1 &&& Int32.toUInt32 31)).toInt32 &&& 1431655765)) &&& 858993459) + ((Int32.toUInt32 (x0 - ((Int32.toUInt32 x0 >>> (Int32.toUInt32 1 &&& Int32.toUInt32 31)).toInt32 &&& 1431655765)) >>> (Int32.toUInt32 2 &&& Int32.toUInt32 31)).toInt32 &&& 858993459)) >>> (Int32.toUInt32 4 &&& Int32.toUInt32 31)).toInt32) &&& 252645135) + (Int32.toUInt32 (((((x0 - ((Int32.toUInt32 x0 >>> (Int32.toUInt32 1 &&& Int32.toUInt32 31)).toInt32 &&& 1431655765)) &&& 858993459) + ((Int32.toUInt32 (x0 - ((Int32.toUInt32 x0 >>> (Int32.toUInt32 1 &&& Int32.toUInt32 31)).toInt32 &&& 1431655765)) >>> (Int32.toUInt32 2 &&& Int32.toUInt32 31)).toInt32 &&& 858993459)) + (Int32.toUInt32 (((x0 - ((Int32.toUInt32 x0 >>> (Int32.toUInt32 1 &&& Int32.toUInt32 31)).toInt32 &&& 1431655765)) &&& 858993459) + ((Int32.toUInt32 (x0 - ((Int32.toUInt32 x0 >>> (Int32.toUInt32 1 &&& Int32.toUInt32 31)).toInt32 &&& 1431655765)) >>> (Int32.toUInt32 2 &&& Int32.toUInt32 31)).toInt32 &&& 858993459)) >>> (Int32.toUInt32 4 &&& Int32.toUInt32 31)).toInt32) &&& 252645135) >>> (Int32.toUInt32 8 &&& Int32.toUInt32 31)).toInt32) >>> (Int32.toUInt32 16 &&& Int32.toUInt32 31)).toInt32))]) (st' := [.int ((((((((x0 - ((Int32.toUInt32 x0 >>> (Int32.toUInt32 1 &&& Int32.toUInt32 31)).toInt32 &&& 1431655765)) &&& 858993459) + ((Int32.toUInt32 (x0 - ((Int32.toUInt32 x0 >>> (Int32.toUInt32 1 &&& Int32.toUInt32 31)).toInt32 &&& 1431655765)) >>> (Int32.toUInt32 2 &&& Int32.toUInt32 31)).toInt32 &&& 858993459)) + (Int32.toUInt32 (((x0 - ((Int32.toUInt32 x0 >>> (Int32.toUInt32 1 &&& Int32.toUInt32 31)).toInt32 &&& 1431655765)) &&& 858993459) + ((Int32.toUInt32 (x0 - ((Int32.toUInt32 x0 >>> (Int32.toUInt32 1 &&& Int32.toUInt32 31)).toInt32 &&& 1431655765)) >>> (Int32.toUInt32 2 &&& Int32.toUInt32 31)).toInt32 &&& 858993459)) >>> (Int32.toUInt32 4 &&& Int32.toUInt32 31)).toInt32) &&& 252645135) + (Int32.toUInt32 (((((x0 - ((Int32.toUInt32 x0 >>> (Int32.toUInt32 1 &&& Int32.toUInt32 31)).toInt32 &&& 1431655765)) &&& 858993459) + ((Int32.toUInt32 (x0 - ((Int32.toUInt32 x0 >>> (Int32.toUInt32 1 &&& Int32.toUInt32 31)).toInt32 &&& 1431655765)) >>> (Int32.toUInt32 2 &&& Int32.toUInt32 31)).toInt32 &&& 858993459)) + (Int32.toUInt32 (((x0 - ((Int32.toUInt32 x0 >>> (Int32.toUInt32 1 &&& Int32.toUInt32 31)).toInt32 &&& 1431655765)) &&& 858993459) + ((Int32.toUInt32 (x0 - ((Int32.toUInt32 x0 >>> (Int32.toUInt32 1 &&& Int32.toUInt32 31)).toInt32 &&& 1431655765)) >>> (Int32.toUInt32 2 &&& Int32.toUInt32 31)).toInt32 &&& 858993459)) >>> (Int32.toUInt32 4 &&& Int32.toUInt32 31)).toInt32) &&& 252645135) >>> (Int32.toUInt32 8 &&& Int32.toUInt32 31)).toInt32) + (Int32.toUInt32 ((((((x0 - ((Int32.toUInt32 x0 >>> (Int32.toUInt32 1 &&& Int32.toUInt32 31)).toInt32 &&& 1431655765)) &&& 858993459) + ((Int32.toUInt32 (x0 - ((Int32.toUInt32 x0 >>> (Int32.toUInt32 1 &&& Int32.toUInt32 31)).toInt32 &&& 1431655765)) >>> (Int32.toUInt32 2 &&& Int32.toUInt32 31)).toInt32 &&& 858993459)) + (Int32.toUInt32 (((x0 - ((Int32.toUInt32 x0 >>> (Int32.toUInt32 1 &&& Int32.toUInt32 31)).toInt32 &&& 1431655765)) &&& 858993459) + ((Int32.toUInt32 (x0 - ((Int32.toUInt32 x0 >>> (Int32.toUInt32 1 &&& Int32.toUInt32 31)).toInt32 &&& 1431655765)) >>> (Int32.toUInt32 2 &&& Int32.toUInt32 31)).toInt32 &&& 858993459)) >>> (Int32.toUInt32 4 &&& Int32.toUInt32 31)).toInt32) &&& 252645135) + (Int32.toUInt32 (((((x0 - ((Int32.toUInt32 x0 >>> (Int32.toUInt32 1 &&& Int32.toUInt32 31)).toInt32 &&& 1431655765)) &&& 858993459) + ((Int32.toUInt32 (x0 - ((Int32.toUInt32 x0 >>> (Int32.toUInt32 1 &&& Int32.toUInt32 31)).toInt32 &&& 1431655765)) >>> (Int32.toUInt32 2 &&& Int32.toUInt32 31)).toInt32 &&& 858993459)) + (Int32.toUInt32 (((x0 - ((Int32.toUInt32 x0 >>> (Int32.toUInt32 1 &&& Int32.toUInt32 31)).toInt32 &&& 1431655765)) &&& 858993459) + ((Int32.toUInt32 (x0 - ((Int32.toUInt32 x0 >>> (Int32.toUInt32 1 &&& Int32.toUInt32 31)).toInt32 &&& 1431655765)) >>> (Int32.toUInt32 2 &&& Int32.toUInt32 31)).toInt32 &&& 858993459)) >>> (Int32.toUInt32 4 &&& Int32.toUInt32 31)).toInt32) &&& 252645135) >>> (Int32.toUInt32 8 &&& Int32.toUInt32 31)).toInt32) >>> (Int32.toUInt32 16 &&& Int32.toUInt32 31)).toInt32) &&& 63)]) (h' := h) rfl ?_
  cases hf
  exact gi_EvR rfl rfl
/-! X0_livesLeft AdmiralGuinea$Book.livesLeft()I -/
def f_X0_livesLeft (h : gi_H) (x0 : Nat) : Option Int32 :=
  (gi_fI h x0 0 2).bind fun y1 => (f_J6_bitCount_0f7a4 y1).bind fun y2 => some ((6 - y2))
set_option maxRecDepth 20000 in
set_option maxHeartbeats 2000000 in
theorem e_X0_livesLeft (h : gi_H) (x0 : Nat) (r : Int32) (hf : f_X0_livesLeft h x0 = some r) : gi_Ev M_X0_livesLeft 0 [some (.ref x0)] [] h (some (.int r), h) := by
  unfold f_X0_livesLeft at hf
  refine gi_EvN 2 (pc' := 3) (lv' := [some (.ref x0)]) (st' := [.ref x0, .int 6]) (h' := h) rfl ?_
  obtain ⟨y1, qy1, hf⟩ := gi_bind hf
  refine gi_EvF rfl (gi_fI_inv qy1) ?_
  obtain ⟨y2, qy2, hf⟩ := gi_bind hf
  refine gi_EvCS rfl rfl rfl rfl rfl (e_J6_bitCount_0f7a4 h _ _ qy2) ?_
  show gi_Ev M_X0_livesLeft 9 [some (.ref x0)] [.int y2, .int 6] h _
  refine gi_EvN 1 (pc' := 10) (lv' := [some (.ref x0)]) (st' := [.int (6 - y2)]) (h' := h) rfl ?_
  cases hf
  exact gi_EvR rfl rfl
/-! X5_isWithin AdmiralGuinea.isWithin(III)Z -/
def f_X5_isWithin (x0 : Int32) (x1 : Int32) (x2 : Int32) : Option Int32 :=
  if x0 < x1 then some (0)
  else if x2 < x0 then some (0)
  else some (1)
set_option maxRecDepth 20000 in
set_option maxHeartbeats 2000000 in
theorem e_X5_isWithin (h : gi_H) (x0 : Int32) (x1 : Int32) (x2 : Int32) (r : Int32) (hf : f_X5_isWithin x0 x1 x2 = some r) : gi_Ev M_X5_isWithin 0 [some (.int x0), some (.int x1), some (.int x2)] [] h (some (.int r), h) := by
  unfold f_X5_isWithin at hf
  refine gi_EvN 2 (pc' := 2) (lv' := [some (.int x0), some (.int x1), some (.int x2)]) (st' := [.int x1, .int x0]) (h' := h) rfl ?_
  refine gi_Ev_ilt rfl (fun c1 => ?_) (fun c1 => ?_)
  · rw [if_pos c1] at hf
    refine gi_EvN 1 (pc' := 15) (lv' := [some (.int x0), some (.int x1), some (.int x2)]) (st' := [.int 0]) (h' := h) rfl ?_
    cases hf
    exact gi_EvR rfl rfl
  · rw [if_neg c1] at hf
    refine gi_EvN 2 (pc' := 7) (lv' := [some (.int x0), some (.int x1), some (.int x2)]) (st' := [.int x2, .int x0]) (h' := h) rfl ?_
    refine gi_Ev_igt rfl (fun c2 => ?_) (fun c2 => ?_)
    · rw [if_pos c2] at hf
      refine gi_EvN 1 (pc' := 15) (lv' := [some (.int x0), some (.int x1), some (.int x2)]) (st' := [.int 0]) (h' := h) rfl ?_
      cases hf
      exact gi_EvR rfl rfl
    · rw [if_neg c2] at hf
      refine gi_EvN 2 (pc' := 15) (lv' := [some (.int x0), some (.int x1), some (.int x2)]) (st' := [.int 1]) (h' := h) rfl ?_
      cases hf
      exact gi_EvR rfl rfl
/-! X0_stands AdmiralGuinea$Book.stands(I)Z -/
def f_X0_stands (h : gi_H) (x0 : Nat) (x1 : Int32) : Option Int32 :=
  (f_X5_isWithin x1 0 11).bind fun y1 => if y1 = 0 then some (0)
  else (gi_fI h x0 0 4).bind fun y3 => if ((y3 >>> (x1 &&& 31)) &&& 1) = 0 then some (0)
  else some (1)
set_option maxRecDepth 20000 in
set_option maxHeartbeats 2000000 in
theorem e_X0_stands (h : gi_H) (x0 : Nat) (x1 : Int32) (r : Int32) (hf : f_X0_stands h x0 x1 = some r) : gi_Ev M_X0_stands 0 [some (.ref x0), some (.int x1)] [] h (some (.int r), h) := by
  unfold f_X0_stands at hf
  refine gi_EvN 3 (pc' := 4) (lv' := [some (.ref x0), some (.int x1)]) (st' := [.int 11, .int 0, .int x1]) (h' := h) rfl ?_
  obtain ⟨y1, qy1, hf⟩ := gi_bind hf
  refine gi_EvCS rfl rfl rfl rfl rfl (e_X5_isWithin h _ _ _ _ qy1) ?_
  show gi_Ev M_X0_stands 7 [some (.ref x0), some (.int x1)] [.int y1] h _
  refine gi_Ev_eq rfl (fun c2 => ?_) (fun c2 => ?_)
  · rw [if_pos c2] at hf
    refine gi_EvN 1 (pc' := 26) (lv' := [some (.ref x0), some (.int x1)]) (st' := [.int 0]) (h' := h) rfl ?_
    cases hf
    exact gi_EvR rfl rfl
  · rw [if_neg c2] at hf
    refine gi_EvN 1 (pc' := 11) (lv' := [some (.ref x0), some (.int x1)]) (st' := [.ref x0]) (h' := h) rfl ?_
    obtain ⟨y3, qy3, hf⟩ := gi_bind hf
    refine gi_EvF rfl (gi_fI_inv qy3) ?_
    refine gi_EvN 4 (pc' := 18) (lv' := [some (.ref x0), some (.int x1)]) (st' := [.int ((y3 >>> (x1 &&& 31)) &&& 1)]) (h' := h) rfl ?_
    refine gi_Ev_eq rfl (fun c4 => ?_) (fun c4 => ?_)
    · rw [if_pos c4] at hf
      refine gi_EvN 1 (pc' := 26) (lv' := [some (.ref x0), some (.int x1)]) (st' := [.int 0]) (h' := h) rfl ?_
      cases hf
      exact gi_EvR rfl rfl
    · rw [if_neg c4] at hf
      refine gi_EvN 2 (pc' := 26) (lv' := [some (.ref x0), some (.int x1)]) (st' := [.int 1]) (h' := h) rfl ?_
      cases hf
      exact gi_EvR rfl rfl
/-! X0_allCash AdmiralGuinea$Book.allCash()I -/
def f_X0_allCash_4 (h : gi_H) : Nat → Nat → Int32 → Int32 → Option Int32
  | 0, _, _, _ => none
  | n + 1, x0, x1, x2 => if 4 ≤ x2 then some (x1)
  else (gi_fR h x0 0 7).bind fun y2 => (gi_ai h y2 0 x2).bind fun y3 => f_X0_allCash_4 h n x0 (x1 + y3) (x2 + 1)
set_option maxRecDepth 20000 in
set_option maxHeartbeats 2000000 in
theorem e_X0_allCash_4 (h : gi_H) : ∀ (n : Nat) (x0 : Nat) (x1 : Int32) (x2 : Int32) (r : Int32), f_X0_allCash_4 h n x0 x1 x2 = some r → gi_Ev M_X0_allCash 4 [some (.ref x0), some (.int x1), some (.int x2)] [] h (some (.int r), h) := by
  intro n
  induction n with
  | zero =>
    intro x0 x1 x2 r hf
    unfold f_X0_allCash_4 at hf
    cases hf
  | succ n ih =>
    intro x0 x1 x2 r hf
    unfold f_X0_allCash_4 at hf
    refine gi_EvN 2 (pc' := 6) (lv' := [some (.ref x0), some (.int x1), some (.int x2)]) (st' := [.int 4, .int x2]) (h' := h) rfl ?_
    refine gi_Ev_ige rfl (fun c1 => ?_) (fun c1 => ?_)
    · rw [if_pos c1] at hf
      refine gi_EvN 1 (pc' := 25) (lv' := [some (.ref x0), some (.int x1), some (.int x2)]) (st' := [.int x1]) (h' := h) rfl ?_
      cases hf
      exact gi_EvR rfl rfl
    · rw [if_neg c1] at hf
      refine gi_EvN 2 (pc' := 11) (lv' := [some (.ref x0), some (.int x1), some (.int x2)]) (st' := [.ref x0, .int x1]) (h' := h) rfl ?_
      obtain ⟨y2, qy2, hf⟩ := gi_bind hf
      refine gi_EvF rfl (gi_fR_inv qy2) ?_
      refine gi_EvN 1 (pc' := 15) (lv' := [some (.ref x0), some (.int x1), some (.int x2)]) (st' := [.int x2, .ref y2, .int x1]) (h' := h) rfl ?_
      obtain ⟨y3, qy3, hf⟩ := gi_bind hf
      refine gi_EvAi rfl qy3 ?_
      refine gi_EvN 4 (pc' := 4) (lv' := [some (.ref x0), some (.int (x1 + y3)), some (.int (x2 + 1))]) (st' := []) (h' := h) rfl ?_
      exact ih   _  _  _ _ hf
def f_X0_allCash (h : gi_H) (x0 : Nat) : Option Int32 :=
  f_X0_allCash_4 h gi_F x0 0 0
set_option maxRecDepth 20000 in
set_option maxHeartbeats 2000000 in
theorem e_X0_allCash (h : gi_H) (x0 : Nat) (r : Int32) (hf : f_X0_allCash h x0 = some r) : gi_Ev M_X0_allCash 0 [some (.ref x0), none, none] [] h (some (.int r), h) := by
  unfold f_X0_allCash at hf
  refine gi_EvN 4 (pc' := 4) (lv' := [some (.ref x0), some (.int 0), some (.int 0)]) (st' := []) (h' := h) rfl ?_
  exact e_X0_allCash_4 h gi_F _ _ _ _ hf
/-! J9_min_7cf53 java/lang/Math.min(II)I -/
def f_J9_min_7cf53 (x0 : Int32) (x1 : Int32) : Option Int32 :=
  if x1 < x0 then some (x1)
  else some (x0)
set_option maxRecDepth 20000 in
set_option maxHeartbeats 2000000 in
theorem e_J9_min_7cf53 (h : gi_H) (x0 : Int32) (x1 : Int32) (r : Int32) (hf : f_J9_min_7cf53 x0 x1 = some r) : gi_Ev M_J9_min_7cf53 0 [some (.int x0), some (.int x1)] [] h (some (.int r), h) := by
  unfold f_J9_min_7cf53 at hf
  refine gi_EvN 2 (pc' := 2) (lv' := [some (.int x0), some (.int x1)]) (st' := [.int x1, .int x0]) (h' := h) rfl ?_
  refine gi_Ev_igt rfl (fun c1 => ?_) (fun c1 => ?_)
  · rw [if_pos c1] at hf
    refine gi_EvN 1 (pc' := 10) (lv' := [some (.int x0), some (.int x1)]) (st' := [.int x1]) (h' := h) rfl ?_
    cases hf
    exact gi_EvR rfl rfl
  · rw [if_neg c1] at hf
    refine gi_EvN 2 (pc' := 10) (lv' := [some (.int x0), some (.int x1)]) (st' := [.int x0]) (h' := h) rfl ?_
    cases hf
    exact gi_EvR rfl rfl
/-! X0_enter AdmiralGuinea$Book.enter(IIII)V -/
def f_X0_enter (h : gi_H) (x0 : Nat) (x1 : Int32) (x2 : Int32) (x3 : Int32) (x4 : Int32) : Option gi_H :=
  (gi_fI h x0 0 3).bind fun y1 => (f_X5_isWithin y1 0 11).bind fun y2 => if y2 = 0 then some h
  else (gi_fR h x0 0 8).bind fun y4 => (gi_fI h x0 0 3).bind fun y5 => (gi_pi h y4 0 y5 x1).bind fun h6 => (gi_fR h6 x0 0 9).bind fun y7 => (gi_fI h6 x0 0 3).bind fun y8 => (gi_pi h6 y7 0 y8 x2).bind fun h9 => (gi_fR h9 x0 0 10).bind fun y10 => (gi_fI h9 x0 0 3).bind fun y11 => (gi_pi h9 y10 0 y11 x3).bind fun h12 => (gi_fR h12 x0 0 11).bind fun y13 => (gi_fI h12 x0 0 3).bind fun y14 => (gi_pi h12 y13 0 y14 x4).bind fun h15 => (gi_fI h15 x0 0 4).bind fun y16 => (gi_fI h15 x0 0 3).bind fun y17 => (gi_fp h15 x0 0 4 (.int (y16 ||| (1 <<< (y17 &&& 31))))).bind fun h18 => (gi_fI h18 x0 0 3).bind fun y19 => (gi_fp h18 x0 0 3 (.int (y19 + 1))).bind fun h20 => some h20
set_option maxRecDepth 20000 in
set_option maxHeartbeats 2000000 in
theorem e_X0_enter (h : gi_H) (x0 : Nat) (x1 : Int32) (x2 : Int32) (x3 : Int32) (x4 : Int32) (r : gi_H) (hf : f_X0_enter h x0 x1 x2 x3 x4 = some r) : gi_Ev M_X0_enter 0 [some (.ref x0), some (.int x1), some (.int x2), some (.int x3), some (.int x4)] [] h (none, r) := by
  unfold f_X0_enter at hf
  refine gi_EvN 1 (pc' := 1) (lv' := [some (.ref x0), some (.int x1), some (.int x2), some (.int x3), some (.int x4)]) (st' := [.ref x0]) (h' := h) rfl ?_
  obtain ⟨y1, qy1, hf⟩ := gi_bind hf
  refine gi_EvF rfl (gi_fI_inv qy1) ?_
  refine gi_EvN 2 (pc' := 7) (lv' := [some (.ref x0), some (.int x1), some (.int x2), some (.int x3), some (.int x4)]) (st' := [.int 11, .int 0, .int y1]) (h' := h) rfl ?_
  obtain ⟨y2, qy2, hf⟩ := gi_bind hf
  refine gi_EvCS rfl rfl rfl rfl rfl (e_X5_isWithin h _ _ _ _ qy2) ?_
  show gi_Ev M_X0_enter 10 [some (.ref x0), some (.int x1), some (.int x2), some (.int x3), some (.int x4)] [.int y2] h _
  refine gi_Ev_ne rfl (fun c3 => ?_) (fun c3 => ?_)
  · rw [if_pos c3] at hf
    cases hf
    exact gi_EvR rfl rfl
  · rw [if_neg c3] at hf
    refine gi_EvN 1 (pc' := 15) (lv' := [some (.ref x0), some (.int x1), some (.int x2), some (.int x3), some (.int x4)]) (st' := [.ref x0]) (h' := h) rfl ?_
    obtain ⟨y4, qy4, hf⟩ := gi_bind hf
    refine gi_EvF rfl (gi_fR_inv qy4) ?_
    refine gi_EvN 1 (pc' := 19) (lv' := [some (.ref x0), some (.int x1), some (.int x2), some (.int x3), some (.int x4)]) (st' := [.ref x0, .ref y4]) (h' := h) rfl ?_
    obtain ⟨y5, qy5, hf⟩ := gi_bind hf
    refine gi_EvF rfl (gi_fI_inv qy5) ?_
    refine gi_EvN 1 (pc' := 23) (lv' := [some (.ref x0), some (.int x1), some (.int x2), some (.int x3), some (.int x4)]) (st' := [.int x1, .int y5, .ref y4]) (h' := h) rfl ?_
    obtain ⟨h6, qh6, hf⟩ := gi_bind hf
    refine gi_EvPi rfl qh6 ?_
    refine gi_EvN 1 (pc' := 25) (lv' := [some (.ref x0), some (.int x1), some (.int x2), some (.int x3), some (.int x4)]) (st' := [.ref x0]) (h' := h6) rfl ?_
    obtain ⟨y7, qy7, hf⟩ := gi_bind hf
    refine gi_EvF rfl (gi_fR_inv qy7) ?_
    refine gi_EvN 1 (pc' := 29) (lv' := [some (.ref x0), some (.int x1), some (.int x2), some (.int x3), some (.int x4)]) (st' := [.ref x0, .ref y7]) (h' := h6) rfl ?_
    obtain ⟨y8, qy8, hf⟩ := gi_bind hf
    refine gi_EvF rfl (gi_fI_inv qy8) ?_
    refine gi_EvN 1 (pc' := 33) (lv' := [some (.ref x0), some (.int x1), some (.int x2), some (.int x3), some (.int x4)]) (st' := [.int x2, .int y8, .ref y7]) (h' := h6) rfl ?_
    obtain ⟨h9, qh9, hf⟩ := gi_bind hf
    refine gi_EvPi rfl qh9 ?_
    refine gi_EvN 1 (pc' := 35) (lv' := [some (.ref x0), some (.int x1), some (.int x2), some (.int x3), some (.int x4)]) (st' := [.ref x0]) (h' := h9) rfl ?_
    obtain ⟨y10, qy10, hf⟩ := gi_bind hf
    refine gi_EvF rfl (gi_fR_inv qy10) ?_
    refine gi_EvN 1 (pc' := 39) (lv' := [some (.ref x0), some (.int x1), some (.int x2), some (.int x3), some (.int x4)]) (st' := [.ref x0, .ref y10]) (h' := h9) rfl ?_
    obtain ⟨y11, qy11, hf⟩ := gi_bind hf
    refine gi_EvF rfl (gi_fI_inv qy11) ?_
    refine gi_EvN 1 (pc' := 43) (lv' := [some (.ref x0), some (.int x1), some (.int x2), some (.int x3), some (.int x4)]) (st' := [.int x3, .int y11, .ref y10]) (h' := h9) rfl ?_
    obtain ⟨h12, qh12, hf⟩ := gi_bind hf
    refine gi_EvPi rfl qh12 ?_
    refine gi_EvN 1 (pc' := 45) (lv' := [some (.ref x0), some (.int x1), some (.int x2), some (.int x3), some (.int x4)]) (st' := [.ref x0]) (h' := h12) rfl ?_
    obtain ⟨y13, qy13, hf⟩ := gi_bind hf
    refine gi_EvF rfl (gi_fR_inv qy13) ?_
    refine gi_EvN 1 (pc' := 49) (lv' := [some (.ref x0), some (.int x1), some (.int x2), some (.int x3), some (.int x4)]) (st' := [.ref x0, .ref y13]) (h' := h12) rfl ?_
    obtain ⟨y14, qy14, hf⟩ := gi_bind hf
    refine gi_EvF rfl (gi_fI_inv qy14) ?_
    refine gi_EvN 1 (pc' := 54) (lv' := [some (.ref x0), some (.int x1), some (.int x2), some (.int x3), some (.int x4)]) (st' := [.int x4, .int y14, .ref y13]) (h' := h12) rfl ?_
    obtain ⟨h15, qh15, hf⟩ := gi_bind hf
    refine gi_EvPi rfl qh15 ?_
    refine gi_EvN 2 (pc' := 57) (lv' := [some (.ref x0), some (.int x1), some (.int x2), some (.int x3), some (.int x4)]) (st' := [.ref x0, .ref x0]) (h' := h15) rfl ?_
    obtain ⟨y16, qy16, hf⟩ := gi_bind hf
    refine gi_EvF rfl (gi_fI_inv qy16) ?_
    refine gi_EvN 2 (pc' := 62) (lv' := [some (.ref x0), some (.int x1), some (.int x2), some (.int x3), some (.int x4)]) (st' := [.ref x0, .int 1, .int y16, .ref x0]) (h' := h15) rfl ?_
    obtain ⟨y17, qy17, hf⟩ := gi_bind hf
    refine gi_EvF rfl (gi_fI_inv qy17) ?_
    refine gi_EvN 2 (pc' := 67) (lv' := [some (.ref x0), some (.int x1), some (.int x2), some (.int x3), some (.int x4)]) (st' := [.int (y16 ||| (1 <<< (y17 &&& 31))), .ref x0]) (h' := h15) rfl ?_
    obtain ⟨h18, qh18, hf⟩ := gi_bind hf
    refine gi_EvFp rfl rfl qh18 ?_
    refine gi_EvN 2 (pc' := 72) (lv' := [some (.ref x0), some (.int x1), some (.int x2), some (.int x3), some (.int x4)]) (st' := [.ref x0, .ref x0]) (h' := h18) rfl ?_
    obtain ⟨y19, qy19, hf⟩ := gi_bind hf
    refine gi_EvF rfl (gi_fI_inv qy19) ?_
    refine gi_EvN 2 (pc' := 77) (lv' := [some (.ref x0), some (.int x1), some (.int x2), some (.int x3), some (.int x4)]) (st' := [.int (y19 + 1), .ref x0]) (h' := h18) rfl ?_
    obtain ⟨h20, qh20, hf⟩ := gi_bind hf
    refine gi_EvFp rfl rfl qh20 ?_
    cases hf
    exact gi_EvR rfl rfl
/-! X5_isBuyer AdmiralGuinea.isBuyer(I)Z -/
def f_X5_isBuyer (x0 : Int32) : Option Int32 :=
  (f_X5_isWithin x0 0 3).bind fun y1 => if y1 = 0 ∨ y1 = 1 then some (y1) else none
set_option maxRecDepth 20000 in
set_option maxHeartbeats 2000000 in
theorem e_X5_isBuyer (h : gi_H) (x0 : Int32) (r : Int32) (hf : f_X5_isBuyer x0 = some r) : gi_Ev M_X5_isBuyer 0 [some (.int x0)] [] h (some (.int r), h) := by
  unfold f_X5_isBuyer at hf
  refine gi_EvN 3 (pc' := 3) (lv' := [some (.int x0)]) (st' := [.int 3, .int 0, .int x0]) (h' := h) rfl ?_
  obtain ⟨y1, qy1, hf⟩ := gi_bind hf
  refine gi_EvCS rfl rfl rfl rfl rfl (e_X5_isWithin h _ _ _ _ qy1) ?_
  show gi_Ev M_X5_isBuyer 6 [some (.int x0)] [.int y1] h _
  by_cases c2 : y1 = 0 ∨ y1 = 1
  rotate_left
  · rw [if_neg c2] at hf; cases hf
  rw [if_pos c2] at hf
  cases hf
  exact gi_EvRz rfl rfl c2
/-! X5_isLife AdmiralGuinea.isLife(I)Z -/
def f_X5_isLife (x0 : Int32) : Option Int32 :=
  (f_X5_isWithin x0 0 5).bind fun y1 => if y1 = 0 ∨ y1 = 1 then some (y1) else none
set_option maxRecDepth 20000 in
set_option maxHeartbeats 2000000 in
theorem e_X5_isLife (h : gi_H) (x0 : Int32) (r : Int32) (hf : f_X5_isLife x0 = some r) : gi_Ev M_X5_isLife 0 [some (.int x0)] [] h (some (.int r), h) := by
  unfold f_X5_isLife at hf
  refine gi_EvN 3 (pc' := 3) (lv' := [some (.int x0)]) (st' := [.int 5, .int 0, .int x0]) (h' := h) rfl ?_
  obtain ⟨y1, qy1, hf⟩ := gi_bind hf
  refine gi_EvCS rfl rfl rfl rfl rfl (e_X5_isWithin h _ _ _ _ qy1) ?_
  show gi_Ev M_X5_isLife 6 [some (.int x0)] [.int y1] h _
  by_cases c2 : y1 = 0 ∨ y1 = 1
  rotate_left
  · rw [if_neg c2] at hf; cases hf
  rw [if_pos c2] at hf
  cases hf
  exact gi_EvRz rfl rfl c2
/-! X5_power AdmiralGuinea.power(JI)J -/
def f_X5_power_5 : Nat → Int64 → Int32 → Int64 → Int32 → Option Int64
  | 0, _, _, _, _ => none
  | n + 1, x0, x2, x3, x5 => if x2 ≤ x5 then some (x3)
  else f_X5_power_5 n x0 x2 (x3 * x0) (x5 + 1)
set_option maxRecDepth 20000 in
set_option maxHeartbeats 2000000 in
theorem e_X5_power_5 (h : gi_H) : ∀ (n : Nat) (g1 : Option Value) (g4 : Option Value) (x0 : Int64) (x2 : Int32) (x3 : Int64) (x5 : Int32) (r : Int64), f_X5_power_5 n x0 x2 x3 x5 = some r → gi_Ev M_X5_power 5 [some (.long x0), g1, some (.int x2), some (.long x3), g4, some (.int x5)] [] h (some (.long r), h) := by
  intro n
  induction n with
  | zero =>
    intro g1 g4 x0 x2 x3 x5 r hf
    unfold f_X5_power_5 at hf
    cases hf
  | succ n ih =>
    intro g1 g4 x0 x2 x3 x5 r hf
    unfold f_X5_power_5 at hf
    refine gi_EvN 2 (pc' := 8) (lv' := [some (.long x0), g1, some (.int x2), some (.long x3), g4, some (.int x5)]) (st' := [.int x2, .int x5]) (h' := h) rfl ?_
    refine gi_Ev_ige rfl (fun c1 => ?_) (fun c1 => ?_)
    · rw [if_pos c1] at hf
      refine gi_EvN 1 (pc' := 22) (lv' := [some (.long x0), g1, some (.int x2), some (.long x3), g4, some (.int x5)]) (st' := [.long x3]) (h' := h) rfl ?_
      cases hf
      exact gi_EvR rfl rfl
    · rw [if_neg c1] at hf
      refine gi_EvN 6 (pc' := 5) (lv' := [some (.long x0), g1, some (.int x2), some (.long (x3 * x0)), none, some (.int (x5 + 1))]) (st' := []) (h' := h) rfl ?_
      exact ih _ _  _  _  _  _ _ hf
def f_X5_power (x0 : Int64) (x2 : Int32) : Option Int64 :=
  f_X5_power_5 gi_F x0 x2 1 0
set_option maxRecDepth 20000 in
set_option maxHeartbeats 2000000 in
theorem e_X5_power (h : gi_H) (x0 : Int64) (x2 : Int32) (r : Int64) (hf : f_X5_power x0 x2 = some r) : gi_Ev M_X5_power 0 [some (.long x0), none, some (.int x2), none, none, none] [] h (some (.long r), h) := by
  unfold f_X5_power at hf
  refine gi_EvN 4 (pc' := 5) (lv' := [some (.long x0), none, some (.int x2), some (.long 1), none, some (.int 0)]) (st' := []) (h' := h) rfl ?_
  exact e_X5_power_5 h gi_F _ _ _ _ _ _ _ hf
/-! X5_endings AdmiralGuinea.endings(II)J -/
def f_X5_endings (x0 : Int32) (x1 : Int32) : Option Int64 :=
  (f_X5_power 10 x1).bind fun y1 => (f_X5_power (Int32.toInt64 (10 - x0)) x1).bind fun y2 => some ((y1 - y2))
set_option maxRecDepth 20000 in
set_option maxHeartbeats 2000000 in
theorem e_X5_endings (h : gi_H) (x0 : Int32) (x1 : Int32) (r : Int64) (hf : f_X5_endings x0 x1 = some r) : gi_Ev M_X5_endings 0 [some (.int x0), some (.int x1)] [] h (some (.long r), h) := by
  unfold f_X5_endings at hf
  refine gi_EvN 2 (pc' := 4) (lv' := [some (.int x0), some (.int x1)]) (st' := [.int x1, .long 10]) (h' := h) rfl ?_
  obtain ⟨y1, qy1, hf⟩ := gi_bind hf
  refine gi_EvCS rfl rfl rfl rfl rfl (e_X5_power h _ _ _ qy1) ?_
  show gi_Ev M_X5_endings 7 [some (.int x0), some (.int x1)] [.long y1] h _
  refine gi_EvN 5 (pc' := 13) (lv' := [some (.int x0), some (.int x1)]) (st' := [.int x1, .long (Int32.toInt64 (10 - x0)), .long y1]) (h' := h) rfl ?_
  obtain ⟨y2, qy2, hf⟩ := gi_bind hf
  refine gi_EvCS rfl rfl rfl rfl rfl (e_X5_power h _ _ _ qy2) ?_
  show gi_Ev M_X5_endings 16 [some (.int x0), some (.int x1)] [.long y2, .long y1] h _
  refine gi_EvN 1 (pc' := 17) (lv' := [some (.int x0), some (.int x1)]) (st' := [.long (y1 - y2)]) (h' := h) rfl ?_
  cases hf
  exact gi_EvR rfl rfl
/-! X5_priceOf AdmiralGuinea.priceOf(III)I -/
def f_X5_priceOf (x0 : Int32) (x1 : Int32) (x2 : Int32) : Option Int32 :=
  (f_X5_power 10 x2).bind fun y1 => if 0 < (lg_cmp y1 0) then (f_X5_endings x1 x2).bind fun y3 => if y1 = 0 then none else some ((Int64.toInt32 (((((Int32.toInt64 x0) * y3) + y1) - 1) / y1)))
  else some (0)
set_option maxRecDepth 20000 in
set_option maxHeartbeats 2000000 in
theorem e_X5_priceOf (h : gi_H) (x0 : Int32) (x1 : Int32) (x2 : Int32) (r : Int32) (hf : f_X5_priceOf x0 x1 x2 = some r) : gi_Ev M_X5_priceOf 0 [some (.int x0), some (.int x1), some (.int x2), none, none] [] h (some (.int r), h) := by
  unfold f_X5_priceOf at hf
  refine gi_EvN 2 (pc' := 4) (lv' := [some (.int x0), some (.int x1), some (.int x2), none, none]) (st' := [.int x2, .long 10]) (h' := h) rfl ?_
  obtain ⟨y1, qy1, hf⟩ := gi_bind hf
  refine gi_EvCS rfl rfl rfl rfl rfl (e_X5_power h _ _ _ qy1) ?_
  show gi_Ev M_X5_priceOf 7 [some (.int x0), some (.int x1), some (.int x2), none, none] [.long y1] h _
  refine gi_EvN 4 (pc' := 11) (lv' := [some (.int x0), some (.int x1), some (.int x2), some (.long y1), none]) (st' := [.int (lg_cmp y1 0)]) (h' := h) rfl ?_
  refine gi_Ev_gt rfl (fun c2 => ?_) (fun c2 => ?_)
  · rw [if_pos c2] at hf
    refine gi_EvN 4 (pc' := 20) (lv' := [some (.int x0), some (.int x1), some (.int x2), some (.long y1), none]) (st' := [.int x2, .int x1, .long (Int32.toInt64 x0)]) (h' := h) rfl ?_
    obtain ⟨y3, qy3, hf⟩ := gi_bind hf
    refine gi_EvCS rfl rfl rfl rfl rfl (e_X5_endings h _ _ _ qy3) ?_
    show gi_Ev M_X5_priceOf 23 [some (.int x0), some (.int x1), some (.int x2), some (.long y1), none] [.long y3, .long (Int32.toInt64 x0)] h _
    refine gi_EvN 6 (pc' := 29) (lv' := [some (.int x0), some (.int x1), some (.int x2), some (.long y1), none]) (st' := [.long y1, .long ((((Int32.toInt64 x0) * y3) + y1) - 1)]) (h' := h) rfl ?_
    by_cases c4 : y1 = 0
    · rw [if_pos c4] at hf; cases hf
    rw [if_neg c4] at hf
    refine gi_EvDl rfl c4 ?_
    refine gi_EvN 1 (pc' := 31) (lv' := [some (.int x0), some (.int x1), some (.int x2), some (.long y1), none]) (st' := [.int (Int64.toInt32 (((((Int32.toInt64 x0) * y3) + y1) - 1) / y1))]) (h' := h) rfl ?_
    cases hf
    exact gi_EvR rfl rfl
  · rw [if_neg c2] at hf
    refine gi_EvN 1 (pc' := 15) (lv' := [some (.int x0), some (.int x1), some (.int x2), some (.long y1), none]) (st' := [.int 0]) (h' := h) rfl ?_
    cases hf
    exact gi_EvR rfl rfl
/-! X0_buyPolicy AdmiralGuinea$Book.buyPolicy(IIII)I -/
def f_X0_buyPolicy (h : gi_H) (x0 : Nat) (x1 : Int32) (x2 : Int32) (x3 : Int32) (x4 : Int32) : Option (Int32 × gi_H) :=
  (f_X5_isBuyer x1).bind fun y1 => if y1 = 0 then some (1, h)
  else (f_X5_isLife x2).bind fun y3 => if y3 = 0 then some (1, h)
  else if gi_is h x0 0 = true then (f_X0_hasEnded h x0 x2).bind fun y5 => if y5 = 0 then (gi_fI h x0 0 3).bind fun y8 => if y8 < 12 then (gi_fR h x0 0 6).bind fun y10 => (gi_ai h y10 0 x2).bind fun y11 => (f_X5_priceOf (10 * x3) y11 x4).bind fun y12 => (gi_fR h x0 0 7).bind fun y13 => (gi_ai h y13 0 x1).bind fun y14 => if y12 ≤ y14 then (gi_fI h x0 0 0).bind fun y16 => if ((y16 + x4) - 1) ≤ 99 then (gi_fR h x0 0 7).bind fun y18 => (gi_ai h y18 0 x1).bind fun y19 => (gi_pi h y18 0 x1 (y19 - y12)).bind fun h20 => (gi_fI h20 x0 0 1).bind fun y21 => (f_J9_min_7cf53 9999 (y21 + y12)).bind fun y22 => (gi_fp h20 x0 0 1 (.int y22)).bind fun h23 => (gi_fI h23 x0 0 0).bind fun y24 => if gi_is h23 x0 0 = true then (f_X0_enter h23 x0 x1 x2 (10 * x3) ((y24 + x4) - 1)).bind fun h25 => some (0, h25) else none
  else some (7, h)
  else some (3, h)
  else some (2, h)
  else some (1, h) else none
set_option maxRecDepth 20000 in
set_option maxHeartbeats 2000000 in
theorem e_X0_buyPolicy (h : gi_H) (x0 : Nat) (x1 : Int32) (x2 : Int32) (x3 : Int32) (x4 : Int32) (r : (Int32 × gi_H)) (hf : f_X0_buyPolicy h x0 x1 x2 x3 x4 = some r) : gi_Ev M_X0_buyPolicy 0 [some (.ref x0), some (.int x1), some (.int x2), some (.int x3), some (.int x4), none] [] h (some (.int r.1), r.2) := by
  unfold f_X0_buyPolicy at hf
  refine gi_EvN 1 (pc' := 1) (lv' := [some (.ref x0), some (.int x1), some (.int x2), some (.int x3), some (.int x4), none]) (st' := [.int x1]) (h' := h) rfl ?_
  obtain ⟨y1, qy1, hf⟩ := gi_bind hf
  refine gi_EvCS rfl rfl rfl rfl rfl (e_X5_isBuyer h _ _ qy1) ?_
  show gi_Ev M_X0_buyPolicy 4 [some (.ref x0), some (.int x1), some (.int x2), some (.int x3), some (.int x4), none] [.int y1] h _
  refine gi_Ev_eq rfl (fun c2 => ?_) (fun c2 => ?_)
  · rw [if_pos c2] at hf
    refine gi_EvN 1 (pc' := 23) (lv' := [some (.ref x0), some (.int x1), some (.int x2), some (.int x3), some (.int x4), none]) (st' := [.int 1]) (h' := h) rfl ?_
    cases hf
    exact gi_EvR rfl rfl
  · rw [if_neg c2] at hf
    refine gi_EvN 1 (pc' := 8) (lv' := [some (.ref x0), some (.int x1), some (.int x2), some (.int x3), some (.int x4), none]) (st' := [.int x2]) (h' := h) rfl ?_
    obtain ⟨y3, qy3, hf⟩ := gi_bind hf
    refine gi_EvCS rfl rfl rfl rfl rfl (e_X5_isLife h _ _ qy3) ?_
    show gi_Ev M_X0_buyPolicy 11 [some (.ref x0), some (.int x1), some (.int x2), some (.int x3), some (.int x4), none] [.int y3] h _
    refine gi_Ev_eq rfl (fun c4 => ?_) (fun c4 => ?_)
    · rw [if_pos c4] at hf
      refine gi_EvN 1 (pc' := 23) (lv' := [some (.ref x0), some (.int x1), some (.int x2), some (.int x3), some (.int x4), none]) (st' := [.int 1]) (h' := h) rfl ?_
      cases hf
      exact gi_EvR rfl rfl
    · rw [if_neg c4] at hf
      refine gi_EvN 2 (pc' := 16) (lv' := [some (.ref x0), some (.int x1), some (.int x2), some (.int x3), some (.int x4), none]) (st' := [.int x2, .ref x0]) (h' := h) rfl ?_
      by_cases c6 : gi_is h x0 0 = true
      rotate_left
      · rw [if_neg c6] at hf; cases hf
      rw [if_pos c6] at hf
      obtain ⟨y5, qy5, hf⟩ := gi_bind hf
      refine gi_EvCV rfl rfl c6 rfl rfl (e_X0_hasEnded h _ _ _ qy5) ?_
      show gi_Ev M_X0_buyPolicy 19 [some (.ref x0), some (.int x1), some (.int x2), some (.int x3), some (.int x4), none] [.int y5] h _
      refine gi_Ev_eq rfl (fun c7 => ?_) (fun c7 => ?_)
      · rw [if_pos c7] at hf
        refine gi_EvN 1 (pc' := 25) (lv' := [some (.ref x0), some (.int x1), some (.int x2), some (.int x3), some (.int x4), none]) (st' := [.ref x0]) (h' := h) rfl ?_
        obtain ⟨y8, qy8, hf⟩ := gi_bind hf
        refine gi_EvF rfl (gi_fI_inv qy8) ?_
        refine gi_EvN 1 (pc' := 30) (lv' := [some (.ref x0), some (.int x1), some (.int x2), some (.int x3), some (.int x4), none]) (st' := [.int 12, .int y8]) (h' := h) rfl ?_
        refine gi_Ev_ilt rfl (fun c9 => ?_) (fun c9 => ?_)
        · rw [if_pos c9] at hf
          refine gi_EvN 4 (pc' := 40) (lv' := [some (.ref x0), some (.int x1), some (.int x2), some (.int x3), some (.int x4), none]) (st' := [.ref x0, .int (10 * x3)]) (h' := h) rfl ?_
          obtain ⟨y10, qy10, hf⟩ := gi_bind hf
          refine gi_EvF rfl (gi_fR_inv qy10) ?_
          refine gi_EvN 1 (pc' := 44) (lv' := [some (.ref x0), some (.int x1), some (.int x2), some (.int x3), some (.int x4), none]) (st' := [.int x2, .ref y10, .int (10 * x3)]) (h' := h) rfl ?_
          obtain ⟨y11, qy11, hf⟩ := gi_bind hf
          refine gi_EvAi rfl qy11 ?_
          refine gi_EvN 1 (pc' := 47) (lv' := [some (.ref x0), some (.int x1), some (.int x2), some (.int x3), some (.int x4), none]) (st' := [.int x4, .int y11, .int (10 * x3)]) (h' := h) rfl ?_
          obtain ⟨y12, qy12, hf⟩ := gi_bind hf
          refine gi_EvCS rfl rfl rfl rfl rfl (e_X5_priceOf h _ _ _ _ qy12) ?_
          show gi_Ev M_X0_buyPolicy 50 [some (.ref x0), some (.int x1), some (.int x2), some (.int x3), some (.int x4), none] [.int y12] h _
          refine gi_EvN 2 (pc' := 53) (lv' := [some (.ref x0), some (.int x1), some (.int x2), some (.int x3), some (.int x4), some (.int y12)]) (st' := [.ref x0]) (h' := h) rfl ?_
          obtain ⟨y13, qy13, hf⟩ := gi_bind hf
          refine gi_EvF rfl (gi_fR_inv qy13) ?_
          refine gi_EvN 1 (pc' := 57) (lv' := [some (.ref x0), some (.int x1), some (.int x2), some (.int x3), some (.int x4), some (.int y12)]) (st' := [.int x1, .ref y13]) (h' := h) rfl ?_
          obtain ⟨y14, qy14, hf⟩ := gi_bind hf
          refine gi_EvAi rfl qy14 ?_
          refine gi_EvN 1 (pc' := 60) (lv' := [some (.ref x0), some (.int x1), some (.int x2), some (.int x3), some (.int x4), some (.int y12)]) (st' := [.int y12, .int y14]) (h' := h) rfl ?_
          refine gi_Ev_ige rfl (fun c15 => ?_) (fun c15 => ?_)
          · rw [if_pos c15] at hf
            refine gi_EvN 1 (pc' := 66) (lv' := [some (.ref x0), some (.int x1), some (.int x2), some (.int x3), some (.int x4), some (.int y12)]) (st' := [.ref x0]) (h' := h) rfl ?_
            obtain ⟨y16, qy16, hf⟩ := gi_bind hf
            refine gi_EvF rfl (gi_fI_inv qy16) ?_
            refine gi_EvN 5 (pc' := 76) (lv' := [some (.ref x0), some (.int x1), some (.int x2), some (.int x3), some (.int x4), some (.int y12)]) (st' := [.int 99, .int ((y16 + x4) - 1)]) (h' := h) rfl ?_
            refine gi_Ev_ile rfl (fun c17 => ?_) (fun c17 => ?_)
            · rw [if_pos c17] at hf
              refine gi_EvN 1 (pc' := 83) (lv' := [some (.ref x0), some (.int x1), some (.int x2), some (.int x3), some (.int x4), some (.int y12)]) (st' := [.ref x0]) (h' := h) rfl ?_
              obtain ⟨y18, qy18, hf⟩ := gi_bind hf
              refine gi_EvF rfl (gi_fR_inv qy18) ?_
              refine gi_EvN 2 (pc' := 88) (lv' := [some (.ref x0), some (.int x1), some (.int x2), some (.int x3), some (.int x4), some (.int y12)]) (st' := [.int x1, .ref y18, .int x1, .ref y18]) (h' := h) rfl ?_
              obtain ⟨y19, qy19, hf⟩ := gi_bind hf
              refine gi_EvAi rfl qy19 ?_
              refine gi_EvN 2 (pc' := 92) (lv' := [some (.ref x0), some (.int x1), some (.int x2), some (.int x3), some (.int x4), some (.int y12)]) (st' := [.int (y19 - y12), .int x1, .ref y18]) (h' := h) rfl ?_
              obtain ⟨h20, qh20, hf⟩ := gi_bind hf
              refine gi_EvPi rfl qh20 ?_
              refine gi_EvN 3 (pc' := 98) (lv' := [some (.ref x0), some (.int x1), some (.int x2), some (.int x3), some (.int x4), some (.int y12)]) (st' := [.ref x0, .int 9999, .ref x0]) (h' := h20) rfl ?_
              obtain ⟨y21, qy21, hf⟩ := gi_bind hf
              refine gi_EvF rfl (gi_fI_inv qy21) ?_
              refine gi_EvN 2 (pc' := 104) (lv' := [some (.ref x0), some (.int x1), some (.int x2), some (.int x3), some (.int x4), some (.int y12)]) (st' := [.int (y21 + y12), .int 9999, .ref x0]) (h' := h20) rfl ?_
              obtain ⟨y22, qy22, hf⟩ := gi_bind hf
              refine gi_EvCS rfl rfl rfl rfl rfl (e_J9_min_7cf53 h20 _ _ _ qy22) ?_
              show gi_Ev M_X0_buyPolicy 107 [some (.ref x0), some (.int x1), some (.int x2), some (.int x3), some (.int x4), some (.int y12)] [.int y22, .ref x0] h20 _
              obtain ⟨h23, qh23, hf⟩ := gi_bind hf
              refine gi_EvFp rfl rfl qh23 ?_
              refine gi_EvN 7 (pc' := 118) (lv' := [some (.ref x0), some (.int x1), some (.int x2), some (.int x3), some (.int x4), some (.int y12)]) (st' := [.ref x0, .int (10 * x3), .int x2, .int x1, .ref x0]) (h' := h23) rfl ?_
              obtain ⟨y24, qy24, hf⟩ := gi_bind hf
              refine gi_EvF rfl (gi_fI_inv qy24) ?_
              refine gi_EvN 4 (pc' := 126) (lv' := [some (.ref x0), some (.int x1), some (.int x2), some (.int x3), some (.int x4), some (.int y12)]) (st' := [.int ((y24 + x4) - 1), .int (10 * x3), .int x2, .int x1, .ref x0]) (h' := h23) rfl ?_
              by_cases c26 : gi_is h23 x0 0 = true
              rotate_left
              · rw [if_neg c26] at hf; cases hf
              rw [if_pos c26] at hf
              obtain ⟨h25, qh25, hf⟩ := gi_bind hf
              refine gi_EvCV rfl rfl c26 rfl rfl (e_X0_enter h23 _ _ _ _ _ _ qh25) ?_
              show gi_Ev M_X0_buyPolicy 129 [some (.ref x0), some (.int x1), some (.int x2), some (.int x3), some (.int x4), some (.int y12)] [] h25 _
              refine gi_EvN 1 (pc' := 130) (lv' := [some (.ref x0), some (.int x1), some (.int x2), some (.int x3), some (.int x4), some (.int y12)]) (st' := [.int 0]) (h' := h25) rfl ?_
              cases hf
              exact gi_EvR rfl rfl
            · rw [if_neg c17] at hf
              refine gi_EvN 1 (pc' := 81) (lv' := [some (.ref x0), some (.int x1), some (.int x2), some (.int x3), some (.int x4), some (.int y12)]) (st' := [.int 7]) (h' := h) rfl ?_
              cases hf
              exact gi_EvR rfl rfl
          · rw [if_neg c15] at hf
            refine gi_EvN 1 (pc' := 64) (lv' := [some (.ref x0), some (.int x1), some (.int x2), some (.int x3), some (.int x4), some (.int y12)]) (st' := [.int 3]) (h' := h) rfl ?_
            cases hf
            exact gi_EvR rfl rfl
        · rw [if_neg c9] at hf
          refine gi_EvN 1 (pc' := 34) (lv' := [some (.ref x0), some (.int x1), some (.int x2), some (.int x3), some (.int x4), none]) (st' := [.int 2]) (h' := h) rfl ?_
          cases hf
          exact gi_EvR rfl rfl
      · rw [if_neg c7] at hf
        refine gi_EvN 1 (pc' := 23) (lv' := [some (.ref x0), some (.int x1), some (.int x2), some (.int x3), some (.int x4), none]) (st' := [.int 1]) (h' := h) rfl ?_
        cases hf
        exact gi_EvR rfl rfl
/-! X0_receive AdmiralGuinea$Book.receive(II)V -/
def f_X0_receive (h : gi_H) (x0 : Nat) (x1 : Int32) (x2 : Int32) : Option gi_H :=
  (f_X5_isWithin x1 0 3).bind fun y1 => if y1 = 0 then some h
  else (gi_fR h x0 0 7).bind fun y3 => (gi_fR h x0 0 7).bind fun y4 => (gi_ai h y4 0 x1).bind fun y5 => (f_J9_min_7cf53 999 (y5 + x2)).bind fun y6 => (gi_pi h y3 0 x1 y6).bind fun h7 => some h7
set_option maxRecDepth 20000 in
set_option maxHeartbeats 2000000 in
theorem e_X0_receive (h : gi_H) (x0 : Nat) (x1 : Int32) (x2 : Int32) (r : gi_H) (hf : f_X0_receive h x0 x1 x2 = some r) : gi_Ev M_X0_receive 0 [some (.ref x0), some (.int x1), some (.int x2)] [] h (none, r) := by
  unfold f_X0_receive at hf
  refine gi_EvN 3 (pc' := 3) (lv' := [some (.ref x0), some (.int x1), some (.int x2)]) (st' := [.int 3, .int 0, .int x1]) (h' := h) rfl ?_
  obtain ⟨y1, qy1, hf⟩ := gi_bind hf
  refine gi_EvCS rfl rfl rfl rfl rfl (e_X5_isWithin h _ _ _ _ qy1) ?_
  show gi_Ev M_X0_receive 6 [some (.ref x0), some (.int x1), some (.int x2)] [.int y1] h _
  refine gi_Ev_eq rfl (fun c2 => ?_) (fun c2 => ?_)
  · rw [if_pos c2] at hf
    cases hf
    exact gi_EvR rfl rfl
  · rw [if_neg c2] at hf
    refine gi_EvN 1 (pc' := 10) (lv' := [some (.ref x0), some (.int x1), some (.int x2)]) (st' := [.ref x0]) (h' := h) rfl ?_
    obtain ⟨y3, qy3, hf⟩ := gi_bind hf
    refine gi_EvF rfl (gi_fR_inv qy3) ?_
    refine gi_EvN 3 (pc' := 18) (lv' := [some (.ref x0), some (.int x1), some (.int x2)]) (st' := [.ref x0, .int 999, .int x1, .ref y3]) (h' := h) rfl ?_
    obtain ⟨y4, qy4, hf⟩ := gi_bind hf
    refine gi_EvF rfl (gi_fR_inv qy4) ?_
    refine gi_EvN 1 (pc' := 22) (lv' := [some (.ref x0), some (.int x1), some (.int x2)]) (st' := [.int x1, .ref y4, .int 999, .int x1, .ref y3]) (h' := h) rfl ?_
    obtain ⟨y5, qy5, hf⟩ := gi_bind hf
    refine gi_EvAi rfl qy5 ?_
    refine gi_EvN 2 (pc' := 25) (lv' := [some (.ref x0), some (.int x1), some (.int x2)]) (st' := [.int (y5 + x2), .int 999, .int x1, .ref y3]) (h' := h) rfl ?_
    obtain ⟨y6, qy6, hf⟩ := gi_bind hf
    refine gi_EvCS rfl rfl rfl rfl rfl (e_J9_min_7cf53 h _ _ _ qy6) ?_
    show gi_Ev M_X0_receive 28 [some (.ref x0), some (.int x1), some (.int x2)] [.int y6, .int x1, .ref y3] h _
    obtain ⟨h7, qh7, hf⟩ := gi_bind hf
    refine gi_EvPi rfl qh7 ?_
    cases hf
    exact gi_EvR rfl rfl
/-! X0_passOn AdmiralGuinea$Book.passOn(III)I -/
def f_X0_passOn (h : gi_H) (x0 : Nat) (x1 : Int32) (x2 : Int32) (x3 : Int32) : Option (Int32 × gi_H) :=
  (f_X5_isBuyer x3).bind fun y1 => if y1 = 0 then some (3, h)
  else (gi_fR h x0 0 7).bind fun y3 => (gi_ai h y3 0 x3).bind fun y4 => if 1 ≤ y4 then (f_X5_isBuyer x1).bind fun y6 => if y6 = 0 then some (4, h)
  else if gi_is h x0 0 = true then (f_X0_stands h x0 x2).bind fun y8 => if y8 = 0 then some (4, h)
  else (gi_fR h x0 0 8).bind fun y11 => (gi_ai h y11 0 x2).bind fun y12 => if y12 = x1 then if x1 = x3 then some (5, h)
  else (gi_fR h x0 0 7).bind fun y15 => (gi_ai h y15 0 x3).bind fun y16 => (gi_pi h y15 0 x3 (y16 - 1)).bind fun h17 => if gi_is h17 x0 0 = true then (f_X0_receive h17 x0 x1 1).bind fun h18 => (gi_fR h18 x0 0 8).bind fun y20 => (gi_pi h18 y20 0 x2 x3).bind fun h21 => some (0, h21) else none
  else some (4, h) else none
  else some (3, h)
set_option maxRecDepth 20000 in
set_option maxHeartbeats 2000000 in
theorem e_X0_passOn (h : gi_H) (x0 : Nat) (x1 : Int32) (x2 : Int32) (x3 : Int32) (r : (Int32 × gi_H)) (hf : f_X0_passOn h x0 x1 x2 x3 = some r) : gi_Ev M_X0_passOn 0 [some (.ref x0), some (.int x1), some (.int x2), some (.int x3)] [] h (some (.int r.1), r.2) := by
  unfold f_X0_passOn at hf
  refine gi_EvN 1 (pc' := 1) (lv' := [some (.ref x0), some (.int x1), some (.int x2), some (.int x3)]) (st' := [.int x3]) (h' := h) rfl ?_
  obtain ⟨y1, qy1, hf⟩ := gi_bind hf
  refine gi_EvCS rfl rfl rfl rfl rfl (e_X5_isBuyer h _ _ qy1) ?_
  show gi_Ev M_X0_passOn 4 [some (.ref x0), some (.int x1), some (.int x2), some (.int x3)] [.int y1] h _
  refine gi_Ev_eq rfl (fun c2 => ?_) (fun c2 => ?_)
  · rw [if_pos c2] at hf
    refine gi_EvN 1 (pc' := 18) (lv' := [some (.ref x0), some (.int x1), some (.int x2), some (.int x3)]) (st' := [.int 3]) (h' := h) rfl ?_
    cases hf
    exact gi_EvR rfl rfl
  · rw [if_neg c2] at hf
    refine gi_EvN 1 (pc' := 8) (lv' := [some (.ref x0), some (.int x1), some (.int x2), some (.int x3)]) (st' := [.ref x0]) (h' := h) rfl ?_
    obtain ⟨y3, qy3, hf⟩ := gi_bind hf
    refine gi_EvF rfl (gi_fR_inv qy3) ?_
    refine gi_EvN 1 (pc' := 12) (lv' := [some (.ref x0), some (.int x1), some (.int x2), some (.int x3)]) (st' := [.int x3, .ref y3]) (h' := h) rfl ?_
    obtain ⟨y4, qy4, hf⟩ := gi_bind hf
    refine gi_EvAi rfl qy4 ?_
    refine gi_EvN 1 (pc' := 14) (lv' := [some (.ref x0), some (.int x1), some (.int x2), some (.int x3)]) (st' := [.int 1, .int y4]) (h' := h) rfl ?_
    refine gi_Ev_ige rfl (fun c5 => ?_) (fun c5 => ?_)
    · rw [if_pos c5] at hf
      refine gi_EvN 1 (pc' := 20) (lv' := [some (.ref x0), some (.int x1), some (.int x2), some (.int x3)]) (st' := [.int x1]) (h' := h) rfl ?_
      obtain ⟨y6, qy6, hf⟩ := gi_bind hf
      refine gi_EvCS rfl rfl rfl rfl rfl (e_X5_isBuyer h _ _ qy6) ?_
      show gi_Ev M_X0_passOn 23 [some (.ref x0), some (.int x1), some (.int x2), some (.int x3)] [.int y6] h _
      refine gi_Ev_eq rfl (fun c7 => ?_) (fun c7 => ?_)
      · rw [if_pos c7] at hf
        refine gi_EvN 1 (pc' := 45) (lv' := [some (.ref x0), some (.int x1), some (.int x2), some (.int x3)]) (st' := [.int 4]) (h' := h) rfl ?_
        cases hf
        exact gi_EvR rfl rfl
      · rw [if_neg c7] at hf
        refine gi_EvN 2 (pc' := 28) (lv' := [some (.ref x0), some (.int x1), some (.int x2), some (.int x3)]) (st' := [.int x2, .ref x0]) (h' := h) rfl ?_
        by_cases c9 : gi_is h x0 0 = true
        rotate_left
        · rw [if_neg c9] at hf; cases hf
        rw [if_pos c9] at hf
        obtain ⟨y8, qy8, hf⟩ := gi_bind hf
        refine gi_EvCV rfl rfl c9 rfl rfl (e_X0_stands h _ _ _ qy8) ?_
        show gi_Ev M_X0_passOn 31 [some (.ref x0), some (.int x1), some (.int x2), some (.int x3)] [.int y8] h _
        refine gi_Ev_eq rfl (fun c10 => ?_) (fun c10 => ?_)
        · rw [if_pos c10] at hf
          refine gi_EvN 1 (pc' := 45) (lv' := [some (.ref x0), some (.int x1), some (.int x2), some (.int x3)]) (st' := [.int 4]) (h' := h) rfl ?_
          cases hf
          exact gi_EvR rfl rfl
        · rw [if_neg c10] at hf
          refine gi_EvN 1 (pc' := 35) (lv' := [some (.ref x0), some (.int x1), some (.int x2), some (.int x3)]) (st' := [.ref x0]) (h' := h) rfl ?_
          obtain ⟨y11, qy11, hf⟩ := gi_bind hf
          refine gi_EvF rfl (gi_fR_inv qy11) ?_
          refine gi_EvN 1 (pc' := 39) (lv' := [some (.ref x0), some (.int x1), some (.int x2), some (.int x3)]) (st' := [.int x2, .ref y11]) (h' := h) rfl ?_
          obtain ⟨y12, qy12, hf⟩ := gi_bind hf
          refine gi_EvAi rfl qy12 ?_
          refine gi_EvN 1 (pc' := 41) (lv' := [some (.ref x0), some (.int x1), some (.int x2), some (.int x3)]) (st' := [.int x1, .int y12]) (h' := h) rfl ?_
          refine gi_Ev_ieq rfl (fun c13 => ?_) (fun c13 => ?_)
          · rw [if_pos c13] at hf
            refine gi_EvN 2 (pc' := 48) (lv' := [some (.ref x0), some (.int x1), some (.int x2), some (.int x3)]) (st' := [.int x3, .int x1]) (h' := h) rfl ?_
            refine gi_Ev_ine rfl (fun c14 => ?_) (fun c14 => ?_)
            · rw [if_pos c14] at hf
              refine gi_EvN 1 (pc' := 52) (lv' := [some (.ref x0), some (.int x1), some (.int x2), some (.int x3)]) (st' := [.int 5]) (h' := h) rfl ?_
              cases hf
              exact gi_EvR rfl rfl
            · rw [if_neg c14] at hf
              refine gi_EvN 1 (pc' := 54) (lv' := [some (.ref x0), some (.int x1), some (.int x2), some (.int x3)]) (st' := [.ref x0]) (h' := h) rfl ?_
              obtain ⟨y15, qy15, hf⟩ := gi_bind hf
              refine gi_EvF rfl (gi_fR_inv qy15) ?_
              refine gi_EvN 2 (pc' := 59) (lv' := [some (.ref x0), some (.int x1), some (.int x2), some (.int x3)]) (st' := [.int x3, .ref y15, .int x3, .ref y15]) (h' := h) rfl ?_
              obtain ⟨y16, qy16, hf⟩ := gi_bind hf
              refine gi_EvAi rfl qy16 ?_
              refine gi_EvN 2 (pc' := 62) (lv' := [some (.ref x0), some (.int x1), some (.int x2), some (.int x3)]) (st' := [.int (y16 - 1), .int x3, .ref y15]) (h' := h) rfl ?_
              obtain ⟨h17, qh17, hf⟩ := gi_bind hf
              refine gi_EvPi rfl qh17 ?_
              refine gi_EvN 3 (pc' := 66) (lv' := [some (.ref x0), some (.int x1), some (.int x2), some (.int x3)]) (st' := [.int 1, .int x1, .ref x0]) (h' := h17) rfl ?_
              by_cases c19 : gi_is h17 x0 0 = true
              rotate_left
              · rw [if_neg c19] at hf; cases hf
              rw [if_pos c19] at hf
              obtain ⟨h18, qh18, hf⟩ := gi_bind hf
              refine gi_EvCV rfl rfl c19 rfl rfl (e_X0_receive h17 _ _ _ _ qh18) ?_
              show gi_Ev M_X0_passOn 69 [some (.ref x0), some (.int x1), some (.int x2), some (.int x3)] [] h18 _
              refine gi_EvN 1 (pc' := 70) (lv' := [some (.ref x0), some (.int x1), some (.int x2), some (.int x3)]) (st' := [.ref x0]) (h' := h18) rfl ?_
              obtain ⟨y20, qy20, hf⟩ := gi_bind hf
              refine gi_EvF rfl (gi_fR_inv qy20) ?_
              refine gi_EvN 2 (pc' := 75) (lv' := [some (.ref x0), some (.int x1), some (.int x2), some (.int x3)]) (st' := [.int x3, .int x2, .ref y20]) (h' := h18) rfl ?_
              obtain ⟨h21, qh21, hf⟩ := gi_bind hf
              refine gi_EvPi rfl qh21 ?_
              refine gi_EvN 1 (pc' := 77) (lv' := [some (.ref x0), some (.int x1), some (.int x2), some (.int x3)]) (st' := [.int 0]) (h' := h21) rfl ?_
              cases hf
              exact gi_EvR rfl rfl
          · rw [if_neg c13] at hf
            refine gi_EvN 1 (pc' := 45) (lv' := [some (.ref x0), some (.int x1), some (.int x2), some (.int x3)]) (st' := [.int 4]) (h' := h) rfl ?_
            cases hf
            exact gi_EvR rfl rfl
    · rw [if_neg c5] at hf
      refine gi_EvN 1 (pc' := 18) (lv' := [some (.ref x0), some (.int x1), some (.int x2), some (.int x3)]) (st' := [.int 3]) (h' := h) rfl ?_
      cases hf
      exact gi_EvR rfl rfl
/-! X0_walk AdmiralGuinea$Book.walk(I)I -/
def f_X0_walk (h : gi_H) (x0 : Nat) (x1 : Int32) : Option (Int32 × gi_H) :=
  (f_X5_isLife x1).bind fun y1 => if y1 = 0 then some (1, h)
  else if gi_is h x0 0 = true then (f_X0_hasEnded h x0 x1).bind fun y3 => if y3 = 0 then (gi_fR h x0 0 6).bind fun y6 => (gi_ai h y6 0 x1).bind fun y7 => if 0 < y7 then (gi_fR h x0 0 6).bind fun y9 => (gi_ai h y9 0 x1).bind fun y10 => (gi_pi h y9 0 x1 (y10 - 1)).bind fun h11 => some (0, h11)
  else some (6, h)
  else some (1, h) else none
set_option maxRecDepth 20000 in
set_option maxHeartbeats 2000000 in
theorem e_X0_walk (h : gi_H) (x0 : Nat) (x1 : Int32) (r : (Int32 × gi_H)) (hf : f_X0_walk h x0 x1 = some r) : gi_Ev M_X0_walk 0 [some (.ref x0), some (.int x1)] [] h (some (.int r.1), r.2) := by
  unfold f_X0_walk at hf
  refine gi_EvN 1 (pc' := 1) (lv' := [some (.ref x0), some (.int x1)]) (st' := [.int x1]) (h' := h) rfl ?_
  obtain ⟨y1, qy1, hf⟩ := gi_bind hf
  refine gi_EvCS rfl rfl rfl rfl rfl (e_X5_isLife h _ _ qy1) ?_
  show gi_Ev M_X0_walk 4 [some (.ref x0), some (.int x1)] [.int y1] h _
  refine gi_Ev_eq rfl (fun c2 => ?_) (fun c2 => ?_)
  · rw [if_pos c2] at hf
    refine gi_EvN 1 (pc' := 16) (lv' := [some (.ref x0), some (.int x1)]) (st' := [.int 1]) (h' := h) rfl ?_
    cases hf
    exact gi_EvR rfl rfl
  · rw [if_neg c2] at hf
    refine gi_EvN 2 (pc' := 9) (lv' := [some (.ref x0), some (.int x1)]) (st' := [.int x1, .ref x0]) (h' := h) rfl ?_
    by_cases c4 : gi_is h x0 0 = true
    rotate_left
    · rw [if_neg c4] at hf; cases hf
    rw [if_pos c4] at hf
    obtain ⟨y3, qy3, hf⟩ := gi_bind hf
    refine gi_EvCV rfl rfl c4 rfl rfl (e_X0_hasEnded h _ _ _ qy3) ?_
    show gi_Ev M_X0_walk 12 [some (.ref x0), some (.int x1)] [.int y3] h _
    refine gi_Ev_eq rfl (fun c5 => ?_) (fun c5 => ?_)
    · rw [if_pos c5] at hf
      refine gi_EvN 1 (pc' := 18) (lv' := [some (.ref x0), some (.int x1)]) (st' := [.ref x0]) (h' := h) rfl ?_
      obtain ⟨y6, qy6, hf⟩ := gi_bind hf
      refine gi_EvF rfl (gi_fR_inv qy6) ?_
      refine gi_EvN 1 (pc' := 22) (lv' := [some (.ref x0), some (.int x1)]) (st' := [.int x1, .ref y6]) (h' := h) rfl ?_
      obtain ⟨y7, qy7, hf⟩ := gi_bind hf
      refine gi_EvAi rfl qy7 ?_
      refine gi_Ev_gt rfl (fun c8 => ?_) (fun c8 => ?_)
      · rw [if_pos c8] at hf
        refine gi_EvN 1 (pc' := 30) (lv' := [some (.ref x0), some (.int x1)]) (st' := [.ref x0]) (h' := h) rfl ?_
        obtain ⟨y9, qy9, hf⟩ := gi_bind hf
        refine gi_EvF rfl (gi_fR_inv qy9) ?_
        refine gi_EvN 2 (pc' := 35) (lv' := [some (.ref x0), some (.int x1)]) (st' := [.int x1, .ref y9, .int x1, .ref y9]) (h' := h) rfl ?_
        obtain ⟨y10, qy10, hf⟩ := gi_bind hf
        refine gi_EvAi rfl qy10 ?_
        refine gi_EvN 2 (pc' := 38) (lv' := [some (.ref x0), some (.int x1)]) (st' := [.int (y10 - 1), .int x1, .ref y9]) (h' := h) rfl ?_
        obtain ⟨h11, qh11, hf⟩ := gi_bind hf
        refine gi_EvPi rfl qh11 ?_
        refine gi_EvN 1 (pc' := 40) (lv' := [some (.ref x0), some (.int x1)]) (st' := [.int 0]) (h' := h11) rfl ?_
        cases hf
        exact gi_EvR rfl rfl
      · rw [if_neg c8] at hf
        refine gi_EvN 1 (pc' := 28) (lv' := [some (.ref x0), some (.int x1)]) (st' := [.int 6]) (h' := h) rfl ?_
        cases hf
        exact gi_EvR rfl rfl
    · rw [if_neg c5] at hf
      refine gi_EvN 1 (pc' := 16) (lv' := [some (.ref x0), some (.int x1)]) (st' := [.int 1]) (h' := h) rfl ?_
      cases hf
      exact gi_EvR rfl rfl
/-! X0_rumour AdmiralGuinea$Book.rumour(I)I -/
def f_X0_rumour (h : gi_H) (x0 : Nat) (x1 : Int32) : Option (Int32 × gi_H) :=
  (f_X5_isLife x1).bind fun y1 => if y1 = 0 then some (1, h)
  else if gi_is h x0 0 = true then (f_X0_hasEnded h x0 x1).bind fun y3 => if y3 = 0 then (gi_fR h x0 0 6).bind fun y6 => (gi_ai h y6 0 x1).bind fun y7 => if y7 < 9 then (gi_fR h x0 0 6).bind fun y9 => (gi_ai h y9 0 x1).bind fun y10 => (gi_pi h y9 0 x1 (y10 + 1)).bind fun h11 => some (0, h11)
  else some (6, h)
  else some (1, h) else none
set_option maxRecDepth 20000 in
set_option maxHeartbeats 2000000 in
theorem e_X0_rumour (h : gi_H) (x0 : Nat) (x1 : Int32) (r : (Int32 × gi_H)) (hf : f_X0_rumour h x0 x1 = some r) : gi_Ev M_X0_rumour 0 [some (.ref x0), some (.int x1)] [] h (some (.int r.1), r.2) := by
  unfold f_X0_rumour at hf
  refine gi_EvN 1 (pc' := 1) (lv' := [some (.ref x0), some (.int x1)]) (st' := [.int x1]) (h' := h) rfl ?_
  obtain ⟨y1, qy1, hf⟩ := gi_bind hf
  refine gi_EvCS rfl rfl rfl rfl rfl (e_X5_isLife h _ _ qy1) ?_
  show gi_Ev M_X0_rumour 4 [some (.ref x0), some (.int x1)] [.int y1] h _
  refine gi_Ev_eq rfl (fun c2 => ?_) (fun c2 => ?_)
  · rw [if_pos c2] at hf
    refine gi_EvN 1 (pc' := 16) (lv' := [some (.ref x0), some (.int x1)]) (st' := [.int 1]) (h' := h) rfl ?_
    cases hf
    exact gi_EvR rfl rfl
  · rw [if_neg c2] at hf
    refine gi_EvN 2 (pc' := 9) (lv' := [some (.ref x0), some (.int x1)]) (st' := [.int x1, .ref x0]) (h' := h) rfl ?_
    by_cases c4 : gi_is h x0 0 = true
    rotate_left
    · rw [if_neg c4] at hf; cases hf
    rw [if_pos c4] at hf
    obtain ⟨y3, qy3, hf⟩ := gi_bind hf
    refine gi_EvCV rfl rfl c4 rfl rfl (e_X0_hasEnded h _ _ _ qy3) ?_
    show gi_Ev M_X0_rumour 12 [some (.ref x0), some (.int x1)] [.int y3] h _
    refine gi_Ev_eq rfl (fun c5 => ?_) (fun c5 => ?_)
    · rw [if_pos c5] at hf
      refine gi_EvN 1 (pc' := 18) (lv' := [some (.ref x0), some (.int x1)]) (st' := [.ref x0]) (h' := h) rfl ?_
      obtain ⟨y6, qy6, hf⟩ := gi_bind hf
      refine gi_EvF rfl (gi_fR_inv qy6) ?_
      refine gi_EvN 1 (pc' := 22) (lv' := [some (.ref x0), some (.int x1)]) (st' := [.int x1, .ref y6]) (h' := h) rfl ?_
      obtain ⟨y7, qy7, hf⟩ := gi_bind hf
      refine gi_EvAi rfl qy7 ?_
      refine gi_EvN 1 (pc' := 25) (lv' := [some (.ref x0), some (.int x1)]) (st' := [.int 9, .int y7]) (h' := h) rfl ?_
      refine gi_Ev_ilt rfl (fun c8 => ?_) (fun c8 => ?_)
      · rw [if_pos c8] at hf
        refine gi_EvN 1 (pc' := 32) (lv' := [some (.ref x0), some (.int x1)]) (st' := [.ref x0]) (h' := h) rfl ?_
        obtain ⟨y9, qy9, hf⟩ := gi_bind hf
        refine gi_EvF rfl (gi_fR_inv qy9) ?_
        refine gi_EvN 2 (pc' := 37) (lv' := [some (.ref x0), some (.int x1)]) (st' := [.int x1, .ref y9, .int x1, .ref y9]) (h' := h) rfl ?_
        obtain ⟨y10, qy10, hf⟩ := gi_bind hf
        refine gi_EvAi rfl qy10 ?_
        refine gi_EvN 2 (pc' := 40) (lv' := [some (.ref x0), some (.int x1)]) (st' := [.int (y10 + 1), .int x1, .ref y9]) (h' := h) rfl ?_
        obtain ⟨h11, qh11, hf⟩ := gi_bind hf
        refine gi_EvPi rfl qh11 ?_
        refine gi_EvN 1 (pc' := 42) (lv' := [some (.ref x0), some (.int x1)]) (st' := [.int 0]) (h' := h11) rfl ?_
        cases hf
        exact gi_EvR rfl rfl
      · rw [if_neg c8] at hf
        refine gi_EvN 1 (pc' := 30) (lv' := [some (.ref x0), some (.int x1)]) (st' := [.int 6]) (h' := h) rfl ?_
        cases hf
        exact gi_EvR rfl rfl
    · rw [if_neg c5] at hf
      refine gi_EvN 1 (pc' := 16) (lv' := [some (.ref x0), some (.int x1)]) (st' := [.int 1]) (h' := h) rfl ?_
      cases hf
      exact gi_EvR rfl rfl
/-! X0_strike AdmiralGuinea$Book.strike(I)V -/
def f_X0_strike (h : gi_H) (x0 : Nat) (x1 : Int32) : Option gi_H :=
  (gi_fI h x0 0 4).bind fun y1 => (gi_fp h x0 0 4 (.int (y1 &&& ((1 <<< (x1 &&& 31)) ^^^ (-1))))).bind fun h2 => (gi_fI h2 x0 0 4).bind fun y3 => if y3 = 0 then (gi_fp h2 x0 0 3 (.int 0)).bind fun h5 => some h5
  else some h2
set_option maxRecDepth 20000 in
set_option maxHeartbeats 2000000 in
theorem e_X0_strike (h : gi_H) (x0 : Nat) (x1 : Int32) (r : gi_H) (hf : f_X0_strike h x0 x1 = some r) : gi_Ev M_X0_strike 0 [some (.ref x0), some (.int x1)] [] h (none, r) := by
  unfold f_X0_strike at hf
  refine gi_EvN 2 (pc' := 2) (lv' := [some (.ref x0), some (.int x1)]) (st' := [.ref x0, .ref x0]) (h' := h) rfl ?_
  obtain ⟨y1, qy1, hf⟩ := gi_bind hf
  refine gi_EvF rfl (gi_fI_inv qy1) ?_
  refine gi_EvN 6 (pc' := 11) (lv' := [some (.ref x0), some (.int x1)]) (st' := [.int (y1 &&& ((1 <<< (x1 &&& 31)) ^^^ (-1))), .ref x0]) (h' := h) rfl ?_
  obtain ⟨h2, qh2, hf⟩ := gi_bind hf
  refine gi_EvFp rfl rfl qh2 ?_
  refine gi_EvN 1 (pc' := 15) (lv' := [some (.ref x0), some (.int x1)]) (st' := [.ref x0]) (h' := h2) rfl ?_
  obtain ⟨y3, qy3, hf⟩ := gi_bind hf
  refine gi_EvF rfl (gi_fI_inv qy3) ?_
  refine gi_Ev_ne rfl (fun c4 => ?_) (fun c4 => ?_)
  · rw [if_pos c4] at hf
    refine gi_EvN 2 (pc' := 23) (lv' := [some (.ref x0), some (.int x1)]) (st' := [.int 0, .ref x0]) (h' := h2) rfl ?_
    obtain ⟨h5, qh5, hf⟩ := gi_bind hf
    refine gi_EvFp rfl rfl qh5 ?_
    cases hf
    exact gi_EvR rfl rfl
  · rw [if_neg c4] at hf
    cases hf
    exact gi_EvR rfl rfl
/-! X0_endLife AdmiralGuinea$Book.endLife(I)I -/
def f_X0_endLife_31 : Nat → gi_H → Nat → Int32 → Int32 → Option (Int32 × gi_H)
  | 0, _, _, _, _ => none
  | n + 1, h, x0, x1, x2 => if 12 ≤ x2 then some (0, h)
  else if gi_is h x0 0 = true then (f_X0_stands h x0 x2).bind fun y2 => if y2 = 0 then f_X0_endLife_31 n h x0 x1 (x2 + 1)
  else (gi_fR h x0 0 9).bind fun y5 => (gi_ai h y5 0 x2).bind fun y6 => if y6 = x1 then (gi_fR h x0 0 10).bind fun y8 => (gi_ai h y8 0 x2).bind fun y9 => (gi_fI h x0 0 1).bind fun y10 => (f_J9_min_7cf53 y9 y10).bind fun y11 => (gi_fR h x0 0 8).bind fun y12 => (gi_ai h y12 0 x2).bind fun y13 => if gi_is h x0 0 = true then (f_X0_receive h x0 y13 y11).bind fun h14 => (gi_fI h14 x0 0 1).bind fun y16 => (gi_fp h14 x0 0 1 (.int (y16 - y11))).bind fun h17 => if gi_is h17 x0 0 = true then (f_X0_strike h17 x0 x2).bind fun h18 => f_X0_endLife_31 n h18 x0 x1 (x2 + 1) else none else none
  else f_X0_endLife_31 n h x0 x1 (x2 + 1) else none
set_option maxRecDepth 20000 in
set_option maxHeartbeats 2000000 in
theorem e_X0_endLife_31 : ∀ (n : Nat) (g3 : Option Value) (h : gi_H) (x0 : Nat) (x1 : Int32) (x2 : Int32) (r : (Int32 × gi_H)), f_X0_endLife_31 n h x0 x1 x2 = some r → gi_Ev M_X0_endLife 31 [some (.ref x0), some (.int x1), some (.int x2), g3] [] h (some (.int r.1), r.2) := by
  intro n
  induction n with
  | zero =>
    intro g3 h x0 x1 x2 r hf
    unfold f_X0_endLife_31 at hf
    cases hf
  | succ n ih =>
    intro g3 h x0 x1 x2 r hf
    unfold f_X0_endLife_31 at hf
    refine gi_EvN 2 (pc' := 34) (lv' := [some (.ref x0), some (.int x1), some (.int x2), g3]) (st' := [.int 12, .int x2]) (h' := h) rfl ?_
    refine gi_Ev_ige rfl (fun c1 => ?_) (fun c1 => ?_)
    · rw [if_pos c1] at hf
      refine gi_EvN 1 (pc' := 102) (lv' := [some (.ref x0), some (.int x1), some (.int x2), g3]) (st' := [.int 0]) (h' := h) rfl ?_
      cases hf
      exact gi_EvR rfl rfl
    · rw [if_neg c1] at hf
      refine gi_EvN 2 (pc' := 39) (lv' := [some (.ref x0), some (.int x1), some (.int x2), g3]) (st' := [.int x2, .ref x0]) (h' := h) rfl ?_
      by_cases c3 : gi_is h x0 0 = true
      rotate_left
      · rw [if_neg c3] at hf; cases hf
      rw [if_pos c3] at hf
      obtain ⟨y2, qy2, hf⟩ := gi_bind hf
      refine gi_EvCV rfl rfl c3 rfl rfl (e_X0_stands h _ _ _ qy2) ?_
      show gi_Ev M_X0_endLife 42 [some (.ref x0), some (.int x1), some (.int x2), g3] [.int y2] h _
      refine gi_Ev_eq rfl (fun c4 => ?_) (fun c4 => ?_)
      · rw [if_pos c4] at hf
        refine gi_EvN 2 (pc' := 31) (lv' := [some (.ref x0), some (.int x1), some (.int (x2 + 1)), g3]) (st' := []) (h' := h) rfl ?_
        exact ih _ _ _  _  _ _ hf
      · rw [if_neg c4] at hf
        refine gi_EvN 1 (pc' := 46) (lv' := [some (.ref x0), some (.int x1), some (.int x2), g3]) (st' := [.ref x0]) (h' := h) rfl ?_
        obtain ⟨y5, qy5, hf⟩ := gi_bind hf
        refine gi_EvF rfl (gi_fR_inv qy5) ?_
        refine gi_EvN 1 (pc' := 50) (lv' := [some (.ref x0), some (.int x1), some (.int x2), g3]) (st' := [.int x2, .ref y5]) (h' := h) rfl ?_
        obtain ⟨y6, qy6, hf⟩ := gi_bind hf
        refine gi_EvAi rfl qy6 ?_
        refine gi_EvN 1 (pc' := 52) (lv' := [some (.ref x0), some (.int x1), some (.int x2), g3]) (st' := [.int x1, .int y6]) (h' := h) rfl ?_
        refine gi_Ev_ine rfl (fun c7 => ?_) (fun c7 => ?_)
        · rw [if_pos c7] at hf
          refine gi_EvN 1 (pc' := 56) (lv' := [some (.ref x0), some (.int x1), some (.int x2), g3]) (st' := [.ref x0]) (h' := h) rfl ?_
          obtain ⟨y8, qy8, hf⟩ := gi_bind hf
          refine gi_EvF rfl (gi_fR_inv qy8) ?_
          refine gi_EvN 1 (pc' := 60) (lv' := [some (.ref x0), some (.int x1), some (.int x2), g3]) (st' := [.int x2, .ref y8]) (h' := h) rfl ?_
          obtain ⟨y9, qy9, hf⟩ := gi_bind hf
          refine gi_EvAi rfl qy9 ?_
          refine gi_EvN 1 (pc' := 62) (lv' := [some (.ref x0), some (.int x1), some (.int x2), g3]) (st' := [.ref x0, .int y9]) (h' := h) rfl ?_
          obtain ⟨y10, qy10, hf⟩ := gi_bind hf
          refine gi_EvF rfl (gi_fI_inv qy10) ?_
          obtain ⟨y11, qy11, hf⟩ := gi_bind hf
          refine gi_EvCS rfl rfl rfl rfl rfl (e_J9_min_7cf53 h _ _ _ qy11) ?_
          show gi_Ev M_X0_endLife 68 [some (.ref x0), some (.int x1), some (.int x2), g3] [.int y11] h _
          refine gi_EvN 3 (pc' := 71) (lv' := [some (.ref x0), some (.int x1), some (.int x2), some (.int y11)]) (st' := [.ref x0, .ref x0]) (h' := h) rfl ?_
          obtain ⟨y12, qy12, hf⟩ := gi_bind hf
          refine gi_EvF rfl (gi_fR_inv qy12) ?_
          refine gi_EvN 1 (pc' := 75) (lv' := [some (.ref x0), some (.int x1), some (.int x2), some (.int y11)]) (st' := [.int x2, .ref y12, .ref x0]) (h' := h) rfl ?_
          obtain ⟨y13, qy13, hf⟩ := gi_bind hf
          refine gi_EvAi rfl qy13 ?_
          refine gi_EvN 1 (pc' := 77) (lv' := [some (.ref x0), some (.int x1), some (.int x2), some (.int y11)]) (st' := [.int y11, .int y13, .ref x0]) (h' := h) rfl ?_
          by_cases c15 : gi_is h x0 0 = true
          rotate_left
          · rw [if_neg c15] at hf; cases hf
          rw [if_pos c15] at hf
          obtain ⟨h14, qh14, hf⟩ := gi_bind hf
          refine gi_EvCV rfl rfl c15 rfl rfl (e_X0_receive h _ _ _ _ qh14) ?_
          show gi_Ev M_X0_endLife 80 [some (.ref x0), some (.int x1), some (.int x2), some (.int y11)] [] h14 _
          refine gi_EvN 2 (pc' := 82) (lv' := [some (.ref x0), some (.int x1), some (.int x2), some (.int y11)]) (st' := [.ref x0, .ref x0]) (h' := h14) rfl ?_
          obtain ⟨y16, qy16, hf⟩ := gi_bind hf
          refine gi_EvF rfl (gi_fI_inv qy16) ?_
          refine gi_EvN 2 (pc' := 87) (lv' := [some (.ref x0), some (.int x1), some (.int x2), some (.int y11)]) (st' := [.int (y16 - y11), .ref x0]) (h' := h14) rfl ?_
          obtain ⟨h17, qh17, hf⟩ := gi_bind hf
          refine gi_EvFp rfl rfl qh17 ?_
          refine gi_EvN 2 (pc' := 92) (lv' := [some (.ref x0), some (.int x1), some (.int x2), some (.int y11)]) (st' := [.int x2, .ref x0]) (h' := h17) rfl ?_
          by_cases c19 : gi_is h17 x0 0 = true
          rotate_left
          · rw [if_neg c19] at hf; cases hf
          rw [if_pos c19] at hf
          obtain ⟨h18, qh18, hf⟩ := gi_bind hf
          refine gi_EvCV rfl rfl c19 rfl rfl (e_X0_strike h17 _ _ _ qh18) ?_
          show gi_Ev M_X0_endLife 95 [some (.ref x0), some (.int x1), some (.int x2), some (.int y11)] [] h18 _
          refine gi_EvN 2 (pc' := 31) (lv' := [some (.ref x0), some (.int x1), some (.int (x2 + 1)), some (.int y11)]) (st' := []) (h' := h18) rfl ?_
          exact ih _ _ _  _  _ _ hf
        · rw [if_neg c7] at hf
          refine gi_EvN 2 (pc' := 31) (lv' := [some (.ref x0), some (.int x1), some (.int (x2 + 1)), g3]) (st' := []) (h' := h) rfl ?_
          exact ih _ _ _  _  _ _ hf
def f_X0_endLife (h : gi_H) (x0 : Nat) (x1 : Int32) : Option (Int32 × gi_H) :=
  (f_X5_isLife x1).bind fun y1 => if y1 = 0 then some (1, h)
  else if gi_is h x0 0 = true then (f_X0_hasEnded h x0 x1).bind fun y3 => if y3 = 0 then (gi_fI h x0 0 2).bind fun y6 => (gi_fp h x0 0 2 (.int (y6 ||| (1 <<< (x1 &&& 31))))).bind fun h7 => f_X0_endLife_31 gi_F h7 x0 x1 0
  else some (1, h) else none
set_option maxRecDepth 20000 in
set_option maxHeartbeats 2000000 in
theorem e_X0_endLife (h : gi_H) (x0 : Nat) (x1 : Int32) (r : (Int32 × gi_H)) (hf : f_X0_endLife h x0 x1 = some r) : gi_Ev M_X0_endLife 0 [some (.ref x0), some (.int x1), none, none] [] h (some (.int r.1), r.2) := by
  unfold f_X0_endLife at hf
  refine gi_EvN 1 (pc' := 1) (lv' := [some (.ref x0), some (.int x1), none, none]) (st' := [.int x1]) (h' := h) rfl ?_
  obtain ⟨y1, qy1, hf⟩ := gi_bind hf
  refine gi_EvCS rfl rfl rfl rfl rfl (e_X5_isLife h _ _ qy1) ?_
  show gi_Ev M_X0_endLife 4 [some (.ref x0), some (.int x1), none, none] [.int y1] h _
  refine gi_Ev_eq rfl (fun c2 => ?_) (fun c2 => ?_)
  · rw [if_pos c2] at hf
    refine gi_EvN 1 (pc' := 16) (lv' := [some (.ref x0), some (.int x1), none, none]) (st' := [.int 1]) (h' := h) rfl ?_
    cases hf
    exact gi_EvR rfl rfl
  · rw [if_neg c2] at hf
    refine gi_EvN 2 (pc' := 9) (lv' := [some (.ref x0), some (.int x1), none, none]) (st' := [.int x1, .ref x0]) (h' := h) rfl ?_
    by_cases c4 : gi_is h x0 0 = true
    rotate_left
    · rw [if_neg c4] at hf; cases hf
    rw [if_pos c4] at hf
    obtain ⟨y3, qy3, hf⟩ := gi_bind hf
    refine gi_EvCV rfl rfl c4 rfl rfl (e_X0_hasEnded h _ _ _ qy3) ?_
    show gi_Ev M_X0_endLife 12 [some (.ref x0), some (.int x1), none, none] [.int y3] h _
    refine gi_Ev_eq rfl (fun c5 => ?_) (fun c5 => ?_)
    · rw [if_pos c5] at hf
      refine gi_EvN 2 (pc' := 19) (lv' := [some (.ref x0), some (.int x1), none, none]) (st' := [.ref x0, .ref x0]) (h' := h) rfl ?_
      obtain ⟨y6, qy6, hf⟩ := gi_bind hf
      refine gi_EvF rfl (gi_fI_inv qy6) ?_
      refine gi_EvN 4 (pc' := 26) (lv' := [some (.ref x0), some (.int x1), none, none]) (st' := [.int (y6 ||| (1 <<< (x1 &&& 31))), .ref x0]) (h' := h) rfl ?_
      obtain ⟨h7, qh7, hf⟩ := gi_bind hf
      refine gi_EvFp rfl rfl qh7 ?_
      refine gi_EvN 2 (pc' := 31) (lv' := [some (.ref x0), some (.int x1), some (.int 0), none]) (st' := []) (h' := h7) rfl ?_
      exact e_X0_endLife_31 gi_F _ h7 _ _ _ _ hf
    · rw [if_neg c5] at hf
      refine gi_EvN 1 (pc' := 16) (lv' := [some (.ref x0), some (.int x1), none, none]) (st' := [.int 1]) (h' := h) rfl ?_
      cases hf
      exact gi_EvR rfl rfl
/-! X0_turnMonth AdmiralGuinea$Book.turnMonth()I -/
def f_X0_turnMonth_52 (h : gi_H) (x0 : Nat) : Option (Int32 × gi_H) :=
  (gi_fI h x0 0 0).bind fun y1 => (gi_fp h x0 0 0 (.int (y1 + 1))).bind fun h2 => some (0, h2)
set_option maxRecDepth 20000 in
set_option maxHeartbeats 2000000 in
theorem e_X0_turnMonth_52 (g1 : Option Value) (h : gi_H) (x0 : Nat) (r : (Int32 × gi_H)) (hf : f_X0_turnMonth_52 h x0 = some r) : gi_Ev M_X0_turnMonth 52 [some (.ref x0), g1] [] h (some (.int r.1), r.2) := by
  unfold f_X0_turnMonth_52 at hf
  refine gi_EvN 2 (pc' := 54) (lv' := [some (.ref x0), g1]) (st' := [.ref x0, .ref x0]) (h' := h) rfl ?_
  obtain ⟨y1, qy1, hf⟩ := gi_bind hf
  refine gi_EvF rfl (gi_fI_inv qy1) ?_
  refine gi_EvN 2 (pc' := 59) (lv' := [some (.ref x0), g1]) (st' := [.int (y1 + 1), .ref x0]) (h' := h) rfl ?_
  obtain ⟨h2, qh2, hf⟩ := gi_bind hf
  refine gi_EvFp rfl rfl qh2 ?_
  refine gi_EvN 1 (pc' := 63) (lv' := [some (.ref x0), g1]) (st' := [.int 0]) (h' := h2) rfl ?_
  cases hf
  exact gi_EvR rfl rfl
def f_X0_turnMonth_14 : Nat → gi_H → Nat → Int32 → Option (Int32 × gi_H)
  | 0, _, _, _ => none
  | n + 1, h, x0, x1 => if 12 ≤ x1 then f_X0_turnMonth_52 h x0
  else if gi_is h x0 0 = true then (f_X0_stands h x0 x1).bind fun y2 => if y2 = 0 then f_X0_turnMonth_14 n h x0 (x1 + 1)
  else (gi_fR h x0 0 11).bind fun y5 => (gi_ai h y5 0 x1).bind fun y6 => (gi_fI h x0 0 0).bind fun y7 => if y7 < y6 then f_X0_turnMonth_14 n h x0 (x1 + 1)
  else if gi_is h x0 0 = true then (f_X0_strike h x0 x1).bind fun h9 => f_X0_turnMonth_14 n h9 x0 (x1 + 1) else none else none
set_option maxRecDepth 20000 in
set_option maxHeartbeats 2000000 in
theorem e_X0_turnMonth_14 : ∀ (n : Nat) (h : gi_H) (x0 : Nat) (x1 : Int32) (r : (Int32 × gi_H)), f_X0_turnMonth_14 n h x0 x1 = some r → gi_Ev M_X0_turnMonth 14 [some (.ref x0), some (.int x1)] [] h (some (.int r.1), r.2) := by
  intro n
  induction n with
  | zero =>
    intro h x0 x1 r hf
    unfold f_X0_turnMonth_14 at hf
    cases hf
  | succ n ih =>
    intro h x0 x1 r hf
    unfold f_X0_turnMonth_14 at hf
    refine gi_EvN 2 (pc' := 17) (lv' := [some (.ref x0), some (.int x1)]) (st' := [.int 12, .int x1]) (h' := h) rfl ?_
    refine gi_Ev_ige rfl (fun c1 => ?_) (fun c1 => ?_)
    · rw [if_pos c1] at hf
      exact e_X0_turnMonth_52 _ h _ _ hf
    · rw [if_neg c1] at hf
      refine gi_EvN 2 (pc' := 22) (lv' := [some (.ref x0), some (.int x1)]) (st' := [.int x1, .ref x0]) (h' := h) rfl ?_
      by_cases c3 : gi_is h x0 0 = true
      rotate_left
      · rw [if_neg c3] at hf; cases hf
      rw [if_pos c3] at hf
      obtain ⟨y2, qy2, hf⟩ := gi_bind hf
      refine gi_EvCV rfl rfl c3 rfl rfl (e_X0_stands h _ _ _ qy2) ?_
      show gi_Ev M_X0_turnMonth 25 [some (.ref x0), some (.int x1)] [.int y2] h _
      refine gi_Ev_eq rfl (fun c4 => ?_) (fun c4 => ?_)
      · rw [if_pos c4] at hf
        refine gi_EvN 2 (pc' := 14) (lv' := [some (.ref x0), some (.int (x1 + 1))]) (st' := []) (h' := h) rfl ?_
        exact ih  _ _  _ _ hf
      · rw [if_neg c4] at hf
        refine gi_EvN 1 (pc' := 29) (lv' := [some (.ref x0), some (.int x1)]) (st' := [.ref x0]) (h' := h) rfl ?_
        obtain ⟨y5, qy5, hf⟩ := gi_bind hf
        refine gi_EvF rfl (gi_fR_inv qy5) ?_
        refine gi_EvN 1 (pc' := 33) (lv' := [some (.ref x0), some (.int x1)]) (st' := [.int x1, .ref y5]) (h' := h) rfl ?_
        obtain ⟨y6, qy6, hf⟩ := gi_bind hf
        refine gi_EvAi rfl qy6 ?_
        refine gi_EvN 1 (pc' := 35) (lv' := [some (.ref x0), some (.int x1)]) (st' := [.ref x0, .int y6]) (h' := h) rfl ?_
        obtain ⟨y7, qy7, hf⟩ := gi_bind hf
        refine gi_EvF rfl (gi_fI_inv qy7) ?_
        refine gi_Ev_igt rfl (fun c8 => ?_) (fun c8 => ?_)
        · rw [if_pos c8] at hf
          refine gi_EvN 2 (pc' := 14) (lv' := [some (.ref x0), some (.int (x1 + 1))]) (st' := []) (h' := h) rfl ?_
          exact ih  _ _  _ _ hf
        · rw [if_neg c8] at hf
          refine gi_EvN 2 (pc' := 43) (lv' := [some (.ref x0), some (.int x1)]) (st' := [.int x1, .ref x0]) (h' := h) rfl ?_
          by_cases c10 : gi_is h x0 0 = true
          rotate_left
          · rw [if_neg c10] at hf; cases hf
          rw [if_pos c10] at hf
          obtain ⟨h9, qh9, hf⟩ := gi_bind hf
          refine gi_EvCV rfl rfl c10 rfl rfl (e_X0_strike h _ _ _ qh9) ?_
          show gi_Ev M_X0_turnMonth 46 [some (.ref x0), some (.int x1)] [] h9 _
          refine gi_EvN 2 (pc' := 14) (lv' := [some (.ref x0), some (.int (x1 + 1))]) (st' := []) (h' := h9) rfl ?_
          exact ih  _ _  _ _ hf
def f_X0_turnMonth (h : gi_H) (x0 : Nat) : Option (Int32 × gi_H) :=
  (gi_fI h x0 0 0).bind fun y1 => if y1 < 99 then f_X0_turnMonth_14 gi_F h x0 0
  else some (7, h)
set_option maxRecDepth 20000 in
set_option maxHeartbeats 2000000 in
theorem e_X0_turnMonth (h : gi_H) (x0 : Nat) (r : (Int32 × gi_H)) (hf : f_X0_turnMonth h x0 = some r) : gi_Ev M_X0_turnMonth 0 [some (.ref x0), none] [] h (some (.int r.1), r.2) := by
  unfold f_X0_turnMonth at hf
  refine gi_EvN 1 (pc' := 1) (lv' := [some (.ref x0), none]) (st' := [.ref x0]) (h' := h) rfl ?_
  obtain ⟨y1, qy1, hf⟩ := gi_bind hf
  refine gi_EvF rfl (gi_fI_inv qy1) ?_
  refine gi_EvN 1 (pc' := 6) (lv' := [some (.ref x0), none]) (st' := [.int 99, .int y1]) (h' := h) rfl ?_
  refine gi_Ev_ilt rfl (fun c2 => ?_) (fun c2 => ?_)
  · rw [if_pos c2] at hf
    refine gi_EvN 2 (pc' := 14) (lv' := [some (.ref x0), some (.int 0)]) (st' := []) (h' := h) rfl ?_
    exact e_X0_turnMonth_14 gi_F h _ _ _ hf
  · rw [if_neg c2] at hf
    refine gi_EvN 1 (pc' := 11) (lv' := [some (.ref x0), none]) (st' := [.int 7]) (h' := h) rfl ?_
    cases hf
    exact gi_EvR rfl rfl
