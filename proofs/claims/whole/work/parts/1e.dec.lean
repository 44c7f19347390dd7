/-! X6_init AdmiralGuineaModel.<init>()V -/
def f_X6_init_112 (h : gi_H) (x0 : Nat) : Option gi_H :=
  (gi_fR h x0 6 0).bind fun y1 => (gi_pi h y1 0 10 1000).bind fun h2 => some h2
set_option maxRecDepth 20000 in
set_option maxHeartbeats 2000000 in
theorem e_X6_init_112 (g1 : Option Value) (h : gi_H) (x0 : Nat) (r : gi_H) (hf : f_X6_init_112 h x0 = some r) : gi_Ev M_X6_init 112 [some (.ref x0), g1] [] h (none, r) := by
  unfold f_X6_init_112 at hf
  refine gi_EvN 1 (pc' := 113) (lv' := [some (.ref x0), g1]) (st' := [.ref x0]) (h' := h) rfl ?_
  obtain ⟨y1, qy1, hf⟩ := gi_bind hf
  refine gi_EvF rfl (gi_fR_inv qy1) ?_
  refine gi_EvN 2 (pc' := 121) (lv' := [some (.ref x0), g1]) (st' := [.int 1000, .int 10, .ref y1]) (h' := h) rfl ?_
  obtain ⟨h2, qh2, hf⟩ := gi_bind hf
  refine gi_EvPi rfl qh2 ?_
  cases hf
  exact gi_EvR rfl rfl
def f_X6_init_90 : Nat → gi_H → Nat → Int32 → Option gi_H
  | 0, _, _, _ => none
  | n + 1, h, x0, x1 => if 4 ≤ x1 then f_X6_init_112 h x0
  else (gi_fR h x0 6 0).bind fun y2 => (gi_pi h y2 0 (6 + x1) 100).bind fun h3 => f_X6_init_90 n h3 x0 (x1 + 1)
set_option maxRecDepth 20000 in
set_option maxHeartbeats 2000000 in
theorem e_X6_init_90 : ∀ (n : Nat) (h : gi_H) (x0 : Nat) (x1 : Int32) (r : gi_H), f_X6_init_90 n h x0 x1 = some r → gi_Ev M_X6_init 90 [some (.ref x0), some (.int x1)] [] h (none, r) := by
  intro n
  induction n with
  | zero =>
    intro h x0 x1 r hf
    unfold f_X6_init_90 at hf
    cases hf
  | succ n ih =>
    intro h x0 x1 r hf
    unfold f_X6_init_90 at hf
    refine gi_EvN 2 (pc' := 92) (lv' := [some (.ref x0), some (.int x1)]) (st' := [.int 4, .int x1]) (h' := h) rfl ?_
    refine gi_Ev_ige rfl (fun c1 => ?_) (fun c1 => ?_)
    · rw [if_pos c1] at hf
      exact e_X6_init_112 _ h _ _ hf
    · rw [if_neg c1] at hf
      refine gi_EvN 1 (pc' := 96) (lv' := [some (.ref x0), some (.int x1)]) (st' := [.ref x0]) (h' := h) rfl ?_
      obtain ⟨y2, qy2, hf⟩ := gi_bind hf
      refine gi_EvF rfl (gi_fR_inv qy2) ?_
      refine gi_EvN 4 (pc' := 105) (lv' := [some (.ref x0), some (.int x1)]) (st' := [.int 100, .int (6 + x1), .ref y2]) (h' := h) rfl ?_
      obtain ⟨h3, qh3, hf⟩ := gi_bind hf
      refine gi_EvPi rfl qh3 ?_
      refine gi_EvN 2 (pc' := 90) (lv' := [some (.ref x0), some (.int (x1 + 1))]) (st' := []) (h' := h3) rfl ?_
      exact ih  _ _  _ _ hf
def f_X6_init_69 : Nat → gi_H → Nat → Int32 → Option gi_H
  | 0, _, _, _ => none
  | n + 1, h, x0, x1 => if 6 ≤ x1 then f_X6_init_90 gi_F h x0 0
  else (gi_fR h x0 6 0).bind fun y2 => (gi_pi h y2 0 x1 1).bind fun h3 => f_X6_init_69 n h3 x0 (x1 + 1)
set_option maxRecDepth 20000 in
set_option maxHeartbeats 2000000 in
theorem e_X6_init_69 : ∀ (n : Nat) (h : gi_H) (x0 : Nat) (x1 : Int32) (r : gi_H), f_X6_init_69 n h x0 x1 = some r → gi_Ev M_X6_init 69 [some (.ref x0), some (.int x1)] [] h (none, r) := by
  intro n
  induction n with
  | zero =>
    intro h x0 x1 r hf
    unfold f_X6_init_69 at hf
    cases hf
  | succ n ih =>
    intro h x0 x1 r hf
    unfold f_X6_init_69 at hf
    refine gi_EvN 2 (pc' := 72) (lv' := [some (.ref x0), some (.int x1)]) (st' := [.int 6, .int x1]) (h' := h) rfl ?_
    refine gi_Ev_ige rfl (fun c1 => ?_) (fun c1 => ?_)
    · rw [if_pos c1] at hf
      refine gi_EvN 2 (pc' := 90) (lv' := [some (.ref x0), some (.int 0)]) (st' := []) (h' := h) rfl ?_
      exact e_X6_init_90 gi_F h _ _ _ hf
    · rw [if_neg c1] at hf
      refine gi_EvN 1 (pc' := 76) (lv' := [some (.ref x0), some (.int x1)]) (st' := [.ref x0]) (h' := h) rfl ?_
      obtain ⟨y2, qy2, hf⟩ := gi_bind hf
      refine gi_EvF rfl (gi_fR_inv qy2) ?_
      refine gi_EvN 2 (pc' := 81) (lv' := [some (.ref x0), some (.int x1)]) (st' := [.int 1, .int x1, .ref y2]) (h' := h) rfl ?_
      obtain ⟨h3, qh3, hf⟩ := gi_bind hf
      refine gi_EvPi rfl qh3 ?_
      refine gi_EvN 2 (pc' := 69) (lv' := [some (.ref x0), some (.int (x1 + 1))]) (st' := []) (h' := h3) rfl ?_
      exact ih  _ _  _ _ hf
def f_X6_init (h : gi_H) (x0 : Nat) : Option gi_H :=
  (gi_new h (gi_na 0 63)).bind fun h1 => (gi_fp h1 x0 6 0 (.ref (List.length h))).bind fun h2 => (gi_new h2 (gi_na 0 63)).bind fun h3 => (gi_fp h3 x0 6 1 (.ref (List.length h2))).bind fun h4 => (gi_new h4 (gi_na 0 24)).bind fun h5 => (gi_fp h5 x0 6 3 (.ref (List.length h4))).bind fun h6 => (gi_new h6 (gi_na 0 60)).bind fun h7 => (gi_fp h7 x0 6 5 (.ref (List.length h6))).bind fun h8 => (gi_new h8 (gi_na 0 24)).bind fun h9 => (gi_fp h9 x0 6 12 (.ref (List.length h8))).bind fun h10 => (gi_new h10 (gi_na 0 4)).bind fun h11 => (gi_fp h11 x0 6 13 (.ref (List.length h10))).bind fun h12 => (gi_new h12 (gi_na 0 200)).bind fun h13 => (gi_fp h13 x0 6 14 (.ref (List.length h12))).bind fun h14 => (gi_new h14 (gi_na 2 2)).bind fun h15 => (gi_fp h15 x0 6 15 (.ref (List.length h14))).bind fun h16 => f_X6_init_69 gi_F h16 x0 0
set_option maxRecDepth 20000 in
set_option maxHeartbeats 2000000 in
theorem e_X6_init (h : gi_H) (x0 : Nat) (r : gi_H) (hf : f_X6_init h x0 = some r) : gi_Ev M_X6_init 0 [some (.ref x0), none] [] h (none, r) := by
  unfold f_X6_init at hf
  refine gi_EvN 4 (pc' := 7) (lv' := [some (.ref x0), none]) (st' := [.int 63, .ref x0]) (h' := h) rfl ?_
  obtain ⟨h1, qh1, hf⟩ := gi_bind hf
  refine gi_EvNwa (N := 63) rfl (by decide) (by decide) (by decide) qh1 ?_
  obtain ⟨h2, qh2, hf⟩ := gi_bind hf
  refine gi_EvFp rfl rfl qh2 ?_
  refine gi_EvN 2 (pc' := 15) (lv' := [some (.ref x0), none]) (st' := [.int 63, .ref x0]) (h' := h2) rfl ?_
  obtain ⟨h3, qh3, hf⟩ := gi_bind hf
  refine gi_EvNwa (N := 63) rfl (by decide) (by decide) (by decide) qh3 ?_
  obtain ⟨h4, qh4, hf⟩ := gi_bind hf
  refine gi_EvFp rfl rfl qh4 ?_
  refine gi_EvN 2 (pc' := 23) (lv' := [some (.ref x0), none]) (st' := [.int 24, .ref x0]) (h' := h4) rfl ?_
  obtain ⟨h5, qh5, hf⟩ := gi_bind hf
  refine gi_EvNwa (N := 24) rfl (by decide) (by decide) (by decide) qh5 ?_
  obtain ⟨h6, qh6, hf⟩ := gi_bind hf
  refine gi_EvFp rfl rfl qh6 ?_
  refine gi_EvN 2 (pc' := 31) (lv' := [some (.ref x0), none]) (st' := [.int 60, .ref x0]) (h' := h6) rfl ?_
  obtain ⟨h7, qh7, hf⟩ := gi_bind hf
  refine gi_EvNwa (N := 60) rfl (by decide) (by decide) (by decide) qh7 ?_
  obtain ⟨h8, qh8, hf⟩ := gi_bind hf
  refine gi_EvFp rfl rfl qh8 ?_
  refine gi_EvN 2 (pc' := 39) (lv' := [some (.ref x0), none]) (st' := [.int 24, .ref x0]) (h' := h8) rfl ?_
  obtain ⟨h9, qh9, hf⟩ := gi_bind hf
  refine gi_EvNwa (N := 24) rfl (by decide) (by decide) (by decide) qh9 ?_
  obtain ⟨h10, qh10, hf⟩ := gi_bind hf
  refine gi_EvFp rfl rfl qh10 ?_
  refine gi_EvN 2 (pc' := 46) (lv' := [some (.ref x0), none]) (st' := [.int 4, .ref x0]) (h' := h10) rfl ?_
  obtain ⟨h11, qh11, hf⟩ := gi_bind hf
  refine gi_EvNwa (N := 4) rfl (by decide) (by decide) (by decide) qh11 ?_
  obtain ⟨h12, qh12, hf⟩ := gi_bind hf
  refine gi_EvFp rfl rfl qh12 ?_
  refine gi_EvN 2 (pc' := 55) (lv' := [some (.ref x0), none]) (st' := [.int 200, .ref x0]) (h' := h12) rfl ?_
  obtain ⟨h13, qh13, hf⟩ := gi_bind hf
  refine gi_EvNwa (N := 200) rfl (by decide) (by decide) (by decide) qh13 ?_
  obtain ⟨h14, qh14, hf⟩ := gi_bind hf
  refine gi_EvFp rfl rfl qh14 ?_
  refine gi_EvN 2 (pc' := 62) (lv' := [some (.ref x0), none]) (st' := [.int 2, .ref x0]) (h' := h14) rfl ?_
  obtain ⟨h15, qh15, hf⟩ := gi_bind hf
  refine gi_EvNwa (N := 2) rfl (by decide) (by decide) (by decide) qh15 ?_
  obtain ⟨h16, qh16, hf⟩ := gi_bind hf
  refine gi_EvFp rfl rfl qh16 ?_
  refine gi_EvN 2 (pc' := 69) (lv' := [some (.ref x0), some (.int 0)]) (st' := []) (h' := h16) rfl ?_
  exact e_X6_init_69 gi_F h16 _ _ _ hf
/-! X6_in AdmiralGuineaModel.in(III)Z -/
def f_X6_in (x0 : Int32) (x1 : Int32) (x2 : Int32) : Option Int32 :=
  if x0 < x1 then some (0)
  else if x2 < x0 then some (0)
  else some (1)
set_option maxRecDepth 20000 in
set_option maxHeartbeats 2000000 in
theorem e_X6_in (h : gi_H) (x0 : Int32) (x1 : Int32) (x2 : Int32) (r : Int32) (hf : f_X6_in x0 x1 x2 = some r) : gi_Ev M_X6_in 0 [some (.int x0), some (.int x1), some (.int x2)] [] h (some (.int r), h) := by
  unfold f_X6_in at hf
  refine gi_EvN 2 (pc' := 2) (lv' := [some (.int x0), some (.int x1), some (.int x2)]) (st' := [.int x1, .int x0]) (h' := h) rfl ?_
  refine gi_Ev_ilt rfl (fun c1 => ?_) (fun c1 => ?_)
  · rw [if_pos c1] at hf
    refine gi_EvN 1 (pc' := 15) (lv' := [some (.int x0), some (.int x1), some (.int x2)]) (st' := [.int 0]) (h' := h) rfl ?_
    cases hf
    exact gi_EvR rfl rfl
  · rw [if_neg c1] at hf
    refine gi_EvN 2 (pc' := 7) (lv' := [some (.int x0), some (.int x1), some (.int x2)]) (st' := [.int x2, .int x0]) (h' := h) rfl ?_
    refine gi_Ev_igt rfl (fun c2 => ?_) (fun c2 => ?_)
    · rw [if_pos c2] at hf
      refine gi_EvN 1 (pc' := 15) (lv' := [some (.int x0), some (.int x1), some (.int x2)]) (st' := [.int 0]) (h' := h) rfl ?_
      cases hf
      exact gi_EvR rfl rfl
    · rw [if_neg c2] at hf
      refine gi_EvN 2 (pc' := 15) (lv' := [some (.int x0), some (.int x1), some (.int x2)]) (st' := [.int 1]) (h' := h) rfl ?_
      cases hf
      exact gi_EvR rfl rfl
/-! X6_has AdmiralGuineaModel.has(II)Z -/
def f_X6_has (x0 : Int32) (x1 : Int32) : Option Int32 :=
  if ((x0 >>> (x1 &&& 31)) &&& 1) = 1 then some (1)
  else some (0)
set_option maxRecDepth 20000 in
set_option maxHeartbeats 2000000 in
theorem e_X6_has (h : gi_H) (x0 : Int32) (x1 : Int32) (r : Int32) (hf : f_X6_has x0 x1 = some r) : gi_Ev M_X6_has 0 [some (.int x0), some (.int x1)] [] h (some (.int r), h) := by
  unfold f_X6_has at hf
  refine gi_EvN 6 (pc' := 6) (lv' := [some (.int x0), some (.int x1)]) (st' := [.int 1, .int ((x0 >>> (x1 &&& 31)) &&& 1)]) (h' := h) rfl ?_
  refine gi_Ev_ine rfl (fun c1 => ?_) (fun c1 => ?_)
  · rw [if_pos c1] at hf
    refine gi_EvN 2 (pc' := 14) (lv' := [some (.int x0), some (.int x1)]) (st' := [.int 1]) (h' := h) rfl ?_
    cases hf
    exact gi_EvR rfl rfl
  · rw [if_neg c1] at hf
    refine gi_EvN 1 (pc' := 14) (lv' := [some (.int x0), some (.int x1)]) (st' := [.int 0]) (h' := h) rfl ?_
    cases hf
    exact gi_EvR rfl rfl
/-! X6_bits AdmiralGuineaModel.bits(I)I -/
def f_X6_bits_4 : Nat → Int32 → Int32 → Int32 → Option Int32
  | 0, _, _, _ => none
  | n + 1, x0, x1, x2 => if 12 ≤ x2 then some (x1)
  else f_X6_bits_4 n x0 (x1 + ((x0 >>> (x2 &&& 31)) &&& 1)) (x2 + 1)
set_option maxRecDepth 20000 in
set_option maxHeartbeats 2000000 in
theorem e_X6_bits_4 (h : gi_H) : ∀ (n : Nat) (x0 : Int32) (x1 : Int32) (x2 : Int32) (r : Int32), f_X6_bits_4 n x0 x1 x2 = some r → gi_Ev M_X6_bits 4 [some (.int x0), some (.int x1), some (.int x2)] [] h (some (.int r), h) := by
  intro n
  induction n with
  | zero =>
    intro x0 x1 x2 r hf
    unfold f_X6_bits_4 at hf
    cases hf
  | succ n ih =>
    intro x0 x1 x2 r hf
    unfold f_X6_bits_4 at hf
    refine gi_EvN 2 (pc' := 7) (lv' := [some (.int x0), some (.int x1), some (.int x2)]) (st' := [.int 12, .int x2]) (h' := h) rfl ?_
    refine gi_Ev_ige rfl (fun c1 => ?_) (fun c1 => ?_)
    · rw [if_pos c1] at hf
      refine gi_EvN 1 (pc' := 25) (lv' := [some (.int x0), some (.int x1), some (.int x2)]) (st' := [.int x1]) (h' := h) rfl ?_
      cases hf
      exact gi_EvR rfl rfl
    · rw [if_neg c1] at hf
      refine gi_EvN 10 (pc' := 4) (lv' := [some (.int x0), some (.int (x1 + ((x0 >>> (x2 &&& 31)) &&& 1))), some (.int (x2 + 1))]) (st' := []) (h' := h) rfl ?_
      exact ih   _  _  _ _ hf
def f_X6_bits (x0 : Int32) : Option Int32 :=
  f_X6_bits_4 gi_F x0 0 0
set_option maxRecDepth 20000 in
set_option maxHeartbeats 2000000 in
theorem e_X6_bits (h : gi_H) (x0 : Int32) (r : Int32) (hf : f_X6_bits x0 = some r) : gi_Ev M_X6_bits 0 [some (.int x0), none, none] [] h (some (.int r), h) := by
  unfold f_X6_bits at hf
  refine gi_EvN 4 (pc' := 4) (lv' := [some (.int x0), some (.int 0), some (.int 0)]) (st' := []) (h' := h) rfl ?_
  exact e_X6_bits_4 h gi_F _ _ _ _ hf
/-! X6_isLife AdmiralGuineaModel.isLife(I)Z -/
def f_X6_isLife (x0 : Int32) : Option Int32 :=
  (f_X6_in x0 0 5).bind fun y1 => if y1 = 0 ∨ y1 = 1 then some (y1) else none
set_option maxRecDepth 20000 in
set_option maxHeartbeats 2000000 in
theorem e_X6_isLife (h : gi_H) (x0 : Int32) (r : Int32) (hf : f_X6_isLife x0 = some r) : gi_Ev M_X6_isLife 0 [some (.int x0)] [] h (some (.int r), h) := by
  unfold f_X6_isLife at hf
  refine gi_EvN 3 (pc' := 3) (lv' := [some (.int x0)]) (st' := [.int 5, .int 0, .int x0]) (h' := h) rfl ?_
  obtain ⟨y1, qy1, hf⟩ := gi_bind hf
  refine gi_EvCS rfl rfl rfl rfl rfl (e_X6_in h _ _ _ _ qy1) ?_
  show gi_Ev M_X6_isLife 6 [some (.int x0)] [.int y1] h _
  by_cases c2 : y1 = 0 ∨ y1 = 1
  rotate_left
  · rw [if_neg c2] at hf; cases hf
  rw [if_pos c2] at hf
  cases hf
  exact gi_EvRz rfl rfl c2
/-! X6_isBuyer AdmiralGuineaModel.isBuyer(I)Z -/
def f_X6_isBuyer (x0 : Int32) : Option Int32 :=
  (f_X6_in x0 0 3).bind fun y1 => if y1 = 0 ∨ y1 = 1 then some (y1) else none
set_option maxRecDepth 20000 in
set_option maxHeartbeats 2000000 in
theorem e_X6_isBuyer (h : gi_H) (x0 : Int32) (r : Int32) (hf : f_X6_isBuyer x0 = some r) : gi_Ev M_X6_isBuyer 0 [some (.int x0)] [] h (some (.int r), h) := by
  unfold f_X6_isBuyer at hf
  refine gi_EvN 3 (pc' := 3) (lv' := [some (.int x0)]) (st' := [.int 3, .int 0, .int x0]) (h' := h) rfl ?_
  obtain ⟨y1, qy1, hf⟩ := gi_bind hf
  refine gi_EvCS rfl rfl rfl rfl rfl (e_X6_in h _ _ _ _ qy1) ?_
  show gi_Ev M_X6_isBuyer 6 [some (.int x0)] [.int y1] h _
  by_cases c2 : y1 = 0 ∨ y1 = 1
  rotate_left
  · rw [if_neg c2] at hf; cases hf
  rw [if_pos c2] at hf
  cases hf
  exact gi_EvRz rfl rfl c2
/-! X6_odds AdmiralGuineaModel.odds(II)I -/
def f_X6_odds (h : gi_H) (x0 : Nat) (x1 : Int32) (x2 : Int32) : Option (Int32 × gi_H) :=
  (f_X6_isLife x1).bind fun y1 => if y1 = 0 then some ((-1), h)
  else (f_X6_in x2 0 9).bind fun y3 => if y3 = 0 then some ((-2), h)
  else (gi_fR h x0 6 0).bind fun y5 => (gi_ai h y5 0 x1).bind fun y6 => (gi_fR h x0 6 0).bind fun y7 => (gi_pi h y7 0 x1 x2).bind fun h8 => some (y6, h8)
set_option maxRecDepth 20000 in
set_option maxHeartbeats 2000000 in
theorem e_X6_odds (h : gi_H) (x0 : Nat) (x1 : Int32) (x2 : Int32) (r : (Int32 × gi_H)) (hf : f_X6_odds h x0 x1 x2 = some r) : gi_Ev M_X6_odds 0 [some (.ref x0), some (.int x1), some (.int x2), none] [] h (some (.int r.1), r.2) := by
  unfold f_X6_odds at hf
  refine gi_EvN 1 (pc' := 1) (lv' := [some (.ref x0), some (.int x1), some (.int x2), none]) (st' := [.int x1]) (h' := h) rfl ?_
  obtain ⟨y1, qy1, hf⟩ := gi_bind hf
  refine gi_EvCS rfl rfl rfl rfl rfl (e_X6_isLife h _ _ qy1) ?_
  show gi_Ev M_X6_odds 4 [some (.ref x0), some (.int x1), some (.int x2), none] [.int y1] h _
  refine gi_Ev_ne rfl (fun c2 => ?_) (fun c2 => ?_)
  · rw [if_pos c2] at hf
    refine gi_EvN 1 (pc' := 8) (lv' := [some (.ref x0), some (.int x1), some (.int x2), none]) (st' := [.int (-1)]) (h' := h) rfl ?_
    cases hf
    exact gi_EvR rfl rfl
  · rw [if_neg c2] at hf
    refine gi_EvN 3 (pc' := 13) (lv' := [some (.ref x0), some (.int x1), some (.int x2), none]) (st' := [.int 9, .int 0, .int x2]) (h' := h) rfl ?_
    obtain ⟨y3, qy3, hf⟩ := gi_bind hf
    refine gi_EvCS rfl rfl rfl rfl rfl (e_X6_in h _ _ _ _ qy3) ?_
    show gi_Ev M_X6_odds 16 [some (.ref x0), some (.int x1), some (.int x2), none] [.int y3] h _
    refine gi_Ev_ne rfl (fun c4 => ?_) (fun c4 => ?_)
    · rw [if_pos c4] at hf
      refine gi_EvN 1 (pc' := 21) (lv' := [some (.ref x0), some (.int x1), some (.int x2), none]) (st' := [.int (-2)]) (h' := h) rfl ?_
      cases hf
      exact gi_EvR rfl rfl
    · rw [if_neg c4] at hf
      refine gi_EvN 1 (pc' := 23) (lv' := [some (.ref x0), some (.int x1), some (.int x2), none]) (st' := [.ref x0]) (h' := h) rfl ?_
      obtain ⟨y5, qy5, hf⟩ := gi_bind hf
      refine gi_EvF rfl (gi_fR_inv qy5) ?_
      refine gi_EvN 1 (pc' := 27) (lv' := [some (.ref x0), some (.int x1), some (.int x2), none]) (st' := [.int x1, .ref y5]) (h' := h) rfl ?_
      obtain ⟨y6, qy6, hf⟩ := gi_bind hf
      refine gi_EvAi rfl qy6 ?_
      refine gi_EvN 2 (pc' := 30) (lv' := [some (.ref x0), some (.int x1), some (.int x2), some (.int y6)]) (st' := [.ref x0]) (h' := h) rfl ?_
      obtain ⟨y7, qy7, hf⟩ := gi_bind hf
      refine gi_EvF rfl (gi_fR_inv qy7) ?_
      refine gi_EvN 2 (pc' := 35) (lv' := [some (.ref x0), some (.int x1), some (.int x2), some (.int y6)]) (st' := [.int x2, .int x1, .ref y7]) (h' := h) rfl ?_
      obtain ⟨h8, qh8, hf⟩ := gi_bind hf
      refine gi_EvPi rfl qh8 ?_
      refine gi_EvN 1 (pc' := 37) (lv' := [some (.ref x0), some (.int x1), some (.int x2), some (.int y6)]) (st' := [.int y6]) (h' := h8) rfl ?_
      cases hf
      exact gi_EvR rfl rfl
/-! X6_heir AdmiralGuineaModel.heir(I)I -/
def f_X6_heir (h : gi_H) (x0 : Nat) (x1 : Int32) : Option (Int32 × gi_H) :=
  (f_X6_isLife x1).bind fun y1 => if y1 = 0 then some ((-1), h)
  else (gi_fR h x0 6 0).bind fun y3 => (gi_ai h y3 0 12).bind fun y4 => (f_X6_has y4 x1).bind fun y5 => if y5 = 0 then some ((-3), h)
  else (gi_fR h x0 6 0).bind fun y7 => (gi_ai h y7 0 12).bind fun y8 => (gi_pi h y7 0 12 (y8 &&& ((1 <<< (x1 &&& 31)) ^^^ (-1)))).bind fun h9 => (gi_fR h9 x0 6 0).bind fun y10 => (gi_ai h9 y10 0 12).bind fun y11 => (f_X6_bits y11).bind fun y12 => some ((6 - y12), h9)
set_option maxRecDepth 20000 in
set_option maxHeartbeats 2000000 in
theorem e_X6_heir (h : gi_H) (x0 : Nat) (x1 : Int32) (r : (Int32 × gi_H)) (hf : f_X6_heir h x0 x1 = some r) : gi_Ev M_X6_heir 0 [some (.ref x0), some (.int x1)] [] h (some (.int r.1), r.2) := by
  unfold f_X6_heir at hf
  refine gi_EvN 1 (pc' := 1) (lv' := [some (.ref x0), some (.int x1)]) (st' := [.int x1]) (h' := h) rfl ?_
  obtain ⟨y1, qy1, hf⟩ := gi_bind hf
  refine gi_EvCS rfl rfl rfl rfl rfl (e_X6_isLife h _ _ qy1) ?_
  show gi_Ev M_X6_heir 4 [some (.ref x0), some (.int x1)] [.int y1] h _
  refine gi_Ev_ne rfl (fun c2 => ?_) (fun c2 => ?_)
  · rw [if_pos c2] at hf
    refine gi_EvN 1 (pc' := 8) (lv' := [some (.ref x0), some (.int x1)]) (st' := [.int (-1)]) (h' := h) rfl ?_
    cases hf
    exact gi_EvR rfl rfl
  · rw [if_neg c2] at hf
    refine gi_EvN 1 (pc' := 10) (lv' := [some (.ref x0), some (.int x1)]) (st' := [.ref x0]) (h' := h) rfl ?_
    obtain ⟨y3, qy3, hf⟩ := gi_bind hf
    refine gi_EvF rfl (gi_fR_inv qy3) ?_
    refine gi_EvN 1 (pc' := 15) (lv' := [some (.ref x0), some (.int x1)]) (st' := [.int 12, .ref y3]) (h' := h) rfl ?_
    obtain ⟨y4, qy4, hf⟩ := gi_bind hf
    refine gi_EvAi rfl qy4 ?_
    refine gi_EvN 1 (pc' := 17) (lv' := [some (.ref x0), some (.int x1)]) (st' := [.int x1, .int y4]) (h' := h) rfl ?_
    obtain ⟨y5, qy5, hf⟩ := gi_bind hf
    refine gi_EvCS rfl rfl rfl rfl rfl (e_X6_has h _ _ _ qy5) ?_
    show gi_Ev M_X6_heir 20 [some (.ref x0), some (.int x1)] [.int y5] h _
    refine gi_Ev_ne rfl (fun c6 => ?_) (fun c6 => ?_)
    · rw [if_pos c6] at hf
      refine gi_EvN 1 (pc' := 25) (lv' := [some (.ref x0), some (.int x1)]) (st' := [.int (-3)]) (h' := h) rfl ?_
      cases hf
      exact gi_EvR rfl rfl
    · rw [if_neg c6] at hf
      refine gi_EvN 1 (pc' := 27) (lv' := [some (.ref x0), some (.int x1)]) (st' := [.ref x0]) (h' := h) rfl ?_
      obtain ⟨y7, qy7, hf⟩ := gi_bind hf
      refine gi_EvF rfl (gi_fR_inv qy7) ?_
      refine gi_EvN 2 (pc' := 33) (lv' := [some (.ref x0), some (.int x1)]) (st' := [.int 12, .ref y7, .int 12, .ref y7]) (h' := h) rfl ?_
      obtain ⟨y8, qy8, hf⟩ := gi_bind hf
      refine gi_EvAi rfl qy8 ?_
      refine gi_EvN 6 (pc' := 40) (lv' := [some (.ref x0), some (.int x1)]) (st' := [.int (y8 &&& ((1 <<< (x1 &&& 31)) ^^^ (-1))), .int 12, .ref y7]) (h' := h) rfl ?_
      obtain ⟨h9, qh9, hf⟩ := gi_bind hf
      refine gi_EvPi rfl qh9 ?_
      refine gi_EvN 2 (pc' := 44) (lv' := [some (.ref x0), some (.int x1)]) (st' := [.ref x0, .int 6]) (h' := h9) rfl ?_
      obtain ⟨y10, qy10, hf⟩ := gi_bind hf
      refine gi_EvF rfl (gi_fR_inv qy10) ?_
      refine gi_EvN 1 (pc' := 49) (lv' := [some (.ref x0), some (.int x1)]) (st' := [.int 12, .ref y10, .int 6]) (h' := h9) rfl ?_
      obtain ⟨y11, qy11, hf⟩ := gi_bind hf
      refine gi_EvAi rfl qy11 ?_
      obtain ⟨y12, qy12, hf⟩ := gi_bind hf
      refine gi_EvCS rfl rfl rfl rfl rfl (e_X6_bits h9 _ _ qy12) ?_
      show gi_Ev M_X6_heir 53 [some (.ref x0), some (.int x1)] [.int y12, .int 6] h9 _
      refine gi_EvN 1 (pc' := 54) (lv' := [some (.ref x0), some (.int x1)]) (st' := [.int (6 - y12)]) (h' := h9) rfl ?_
      cases hf
      exact gi_EvR rfl rfl
/-! X6_cash AdmiralGuineaModel.cash(II)I -/
def f_X6_cash (h : gi_H) (x0 : Nat) (x1 : Int32) (x2 : Int32) : Option (Int32 × gi_H) :=
  (f_X6_isBuyer x1).bind fun y1 => if y1 = 0 then some ((-1), h)
  else (f_X6_in x2 0 999).bind fun y3 => if y3 = 0 then some ((-2), h)
  else (gi_fR h x0 6 0).bind fun y5 => (gi_ai h y5 0 (6 + x1)).bind fun y6 => (gi_fR h x0 6 0).bind fun y7 => (gi_pi h y7 0 (6 + x1) x2).bind fun h8 => some (y6, h8)
set_option maxRecDepth 20000 in
set_option maxHeartbeats 2000000 in
theorem e_X6_cash (h : gi_H) (x0 : Nat) (x1 : Int32) (x2 : Int32) (r : (Int32 × gi_H)) (hf : f_X6_cash h x0 x1 x2 = some r) : gi_Ev M_X6_cash 0 [some (.ref x0), some (.int x1), some (.int x2), none] [] h (some (.int r.1), r.2) := by
  unfold f_X6_cash at hf
  refine gi_EvN 1 (pc' := 1) (lv' := [some (.ref x0), some (.int x1), some (.int x2), none]) (st' := [.int x1]) (h' := h) rfl ?_
  obtain ⟨y1, qy1, hf⟩ := gi_bind hf
  refine gi_EvCS rfl rfl rfl rfl rfl (e_X6_isBuyer h _ _ qy1) ?_
  show gi_Ev M_X6_cash 4 [some (.ref x0), some (.int x1), some (.int x2), none] [.int y1] h _
  refine gi_Ev_ne rfl (fun c2 => ?_) (fun c2 => ?_)
  · rw [if_pos c2] at hf
    refine gi_EvN 1 (pc' := 8) (lv' := [some (.ref x0), some (.int x1), some (.int x2), none]) (st' := [.int (-1)]) (h' := h) rfl ?_
    cases hf
    exact gi_EvR rfl rfl
  · rw [if_neg c2] at hf
    refine gi_EvN 3 (pc' := 14) (lv' := [some (.ref x0), some (.int x1), some (.int x2), none]) (st' := [.int 999, .int 0, .int x2]) (h' := h) rfl ?_
    obtain ⟨y3, qy3, hf⟩ := gi_bind hf
    refine gi_EvCS rfl rfl rfl rfl rfl (e_X6_in h _ _ _ _ qy3) ?_
    show gi_Ev M_X6_cash 17 [some (.ref x0), some (.int x1), some (.int x2), none] [.int y3] h _
    refine gi_Ev_ne rfl (fun c4 => ?_) (fun c4 => ?_)
    · rw [if_pos c4] at hf
      refine gi_EvN 1 (pc' := 22) (lv' := [some (.ref x0), some (.int x1), some (.int x2), none]) (st' := [.int (-2)]) (h' := h) rfl ?_
      cases hf
      exact gi_EvR rfl rfl
    · rw [if_neg c4] at hf
      refine gi_EvN 1 (pc' := 24) (lv' := [some (.ref x0), some (.int x1), some (.int x2), none]) (st' := [.ref x0]) (h' := h) rfl ?_
      obtain ⟨y5, qy5, hf⟩ := gi_bind hf
      refine gi_EvF rfl (gi_fR_inv qy5) ?_
      refine gi_EvN 3 (pc' := 31) (lv' := [some (.ref x0), some (.int x1), some (.int x2), none]) (st' := [.int (6 + x1), .ref y5]) (h' := h) rfl ?_
      obtain ⟨y6, qy6, hf⟩ := gi_bind hf
      refine gi_EvAi rfl qy6 ?_
      refine gi_EvN 2 (pc' := 34) (lv' := [some (.ref x0), some (.int x1), some (.int x2), some (.int y6)]) (st' := [.ref x0]) (h' := h) rfl ?_
      obtain ⟨y7, qy7, hf⟩ := gi_bind hf
      refine gi_EvF rfl (gi_fR_inv qy7) ?_
      refine gi_EvN 4 (pc' := 42) (lv' := [some (.ref x0), some (.int x1), some (.int x2), some (.int y6)]) (st' := [.int x2, .int (6 + x1), .ref y7]) (h' := h) rfl ?_
      obtain ⟨h8, qh8, hf⟩ := gi_bind hf
      refine gi_EvPi rfl qh8 ?_
      refine gi_EvN 1 (pc' := 44) (lv' := [some (.ref x0), some (.int x1), some (.int x2), some (.int y6)]) (st' := [.int y6]) (h' := h8) rfl ?_
      cases hf
      exact gi_EvR rfl rfl
/-! X6_funds AdmiralGuineaModel.funds(I)I -/
def f_X6_funds (h : gi_H) (x0 : Nat) (x1 : Int32) : Option (Int32 × gi_H) :=
  (f_X6_in x1 0 9999).bind fun y1 => if y1 = 0 then some ((-2), h)
  else (gi_fR h x0 6 0).bind fun y3 => (gi_ai h y3 0 10).bind fun y4 => (gi_fR h x0 6 0).bind fun y5 => (gi_pi h y5 0 10 x1).bind fun h6 => some (y4, h6)
set_option maxRecDepth 20000 in
set_option maxHeartbeats 2000000 in
theorem e_X6_funds (h : gi_H) (x0 : Nat) (x1 : Int32) (r : (Int32 × gi_H)) (hf : f_X6_funds h x0 x1 = some r) : gi_Ev M_X6_funds 0 [some (.ref x0), some (.int x1), none] [] h (some (.int r.1), r.2) := by
  unfold f_X6_funds at hf
  refine gi_EvN 3 (pc' := 5) (lv' := [some (.ref x0), some (.int x1), none]) (st' := [.int 9999, .int 0, .int x1]) (h' := h) rfl ?_
  obtain ⟨y1, qy1, hf⟩ := gi_bind hf
  refine gi_EvCS rfl rfl rfl rfl rfl (e_X6_in h _ _ _ _ qy1) ?_
  show gi_Ev M_X6_funds 8 [some (.ref x0), some (.int x1), none] [.int y1] h _
  refine gi_Ev_ne rfl (fun c2 => ?_) (fun c2 => ?_)
  · rw [if_pos c2] at hf
    refine gi_EvN 1 (pc' := 13) (lv' := [some (.ref x0), some (.int x1), none]) (st' := [.int (-2)]) (h' := h) rfl ?_
    cases hf
    exact gi_EvR rfl rfl
  · rw [if_neg c2] at hf
    refine gi_EvN 1 (pc' := 15) (lv' := [some (.ref x0), some (.int x1), none]) (st' := [.ref x0]) (h' := h) rfl ?_
    obtain ⟨y3, qy3, hf⟩ := gi_bind hf
    refine gi_EvF rfl (gi_fR_inv qy3) ?_
    refine gi_EvN 1 (pc' := 20) (lv' := [some (.ref x0), some (.int x1), none]) (st' := [.int 10, .ref y3]) (h' := h) rfl ?_
    obtain ⟨y4, qy4, hf⟩ := gi_bind hf
    refine gi_EvAi rfl qy4 ?_
    refine gi_EvN 2 (pc' := 23) (lv' := [some (.ref x0), some (.int x1), some (.int y4)]) (st' := [.ref x0]) (h' := h) rfl ?_
    obtain ⟨y5, qy5, hf⟩ := gi_bind hf
    refine gi_EvF rfl (gi_fR_inv qy5) ?_
    refine gi_EvN 2 (pc' := 29) (lv' := [some (.ref x0), some (.int x1), some (.int y4)]) (st' := [.int x1, .int 10, .ref y5]) (h' := h) rfl ?_
    obtain ⟨h6, qh6, hf⟩ := gi_bind hf
    refine gi_EvPi rfl qh6 ?_
    refine gi_EvN 1 (pc' := 31) (lv' := [some (.ref x0), some (.int x1), some (.int y4)]) (st' := [.int y4]) (h' := h6) rfl ?_
    cases hf
    exact gi_EvR rfl rfl
/-! X6_say AdmiralGuineaModel.say(I)I -/
def f_X6_say (h : gi_H) (x0 : Nat) (x1 : Int32) : Option (Int32 × gi_H) :=
  (f_X6_in x1 33 126).bind fun y1 => if y1 = 0 then some ((-2), h)
  else (gi_fI h x0 6 4).bind fun y3 => if y3 = 60 then some ((-4), h)
  else (gi_fR h x0 6 5).bind fun y5 => (gi_fI h x0 6 4).bind fun y6 => (gi_pi h y5 0 y6 x1).bind fun h7 => (gi_fI h7 x0 6 4).bind fun y8 => (gi_fp h7 x0 6 4 (.int (y8 + 1))).bind fun h9 => (gi_fI h9 x0 6 4).bind fun y10 => some (y10, h9)
set_option maxRecDepth 20000 in
set_option maxHeartbeats 2000000 in
theorem e_X6_say (h : gi_H) (x0 : Nat) (x1 : Int32) (r : (Int32 × gi_H)) (hf : f_X6_say h x0 x1 = some r) : gi_Ev M_X6_say 0 [some (.ref x0), some (.int x1)] [] h (some (.int r.1), r.2) := by
  unfold f_X6_say at hf
  refine gi_EvN 3 (pc' := 5) (lv' := [some (.ref x0), some (.int x1)]) (st' := [.int 126, .int 33, .int x1]) (h' := h) rfl ?_
  obtain ⟨y1, qy1, hf⟩ := gi_bind hf
  refine gi_EvCS rfl rfl rfl rfl rfl (e_X6_in h _ _ _ _ qy1) ?_
  show gi_Ev M_X6_say 8 [some (.ref x0), some (.int x1)] [.int y1] h _
  refine gi_Ev_ne rfl (fun c2 => ?_) (fun c2 => ?_)
  · rw [if_pos c2] at hf
    refine gi_EvN 1 (pc' := 13) (lv' := [some (.ref x0), some (.int x1)]) (st' := [.int (-2)]) (h' := h) rfl ?_
    cases hf
    exact gi_EvR rfl rfl
  · rw [if_neg c2] at hf
    refine gi_EvN 1 (pc' := 15) (lv' := [some (.ref x0), some (.int x1)]) (st' := [.ref x0]) (h' := h) rfl ?_
    obtain ⟨y3, qy3, hf⟩ := gi_bind hf
    refine gi_EvF rfl (gi_fI_inv qy3) ?_
    refine gi_EvN 1 (pc' := 20) (lv' := [some (.ref x0), some (.int x1)]) (st' := [.int 60, .int y3]) (h' := h) rfl ?_
    refine gi_Ev_ine rfl (fun c4 => ?_) (fun c4 => ?_)
    · rw [if_pos c4] at hf
      refine gi_EvN 1 (pc' := 25) (lv' := [some (.ref x0), some (.int x1)]) (st' := [.int (-4)]) (h' := h) rfl ?_
      cases hf
      exact gi_EvR rfl rfl
    · rw [if_neg c4] at hf
      refine gi_EvN 1 (pc' := 27) (lv' := [some (.ref x0), some (.int x1)]) (st' := [.ref x0]) (h' := h) rfl ?_
      obtain ⟨y5, qy5, hf⟩ := gi_bind hf
      refine gi_EvF rfl (gi_fR_inv qy5) ?_
      refine gi_EvN 1 (pc' := 31) (lv' := [some (.ref x0), some (.int x1)]) (st' := [.ref x0, .ref y5]) (h' := h) rfl ?_
      obtain ⟨y6, qy6, hf⟩ := gi_bind hf
      refine gi_EvF rfl (gi_fI_inv qy6) ?_
      refine gi_EvN 1 (pc' := 35) (lv' := [some (.ref x0), some (.int x1)]) (st' := [.int x1, .int y6, .ref y5]) (h' := h) rfl ?_
      obtain ⟨h7, qh7, hf⟩ := gi_bind hf
      refine gi_EvPi rfl qh7 ?_
      refine gi_EvN 2 (pc' := 38) (lv' := [some (.ref x0), some (.int x1)]) (st' := [.ref x0, .ref x0]) (h' := h7) rfl ?_
      obtain ⟨y8, qy8, hf⟩ := gi_bind hf
      refine gi_EvF rfl (gi_fI_inv qy8) ?_
      refine gi_EvN 2 (pc' := 43) (lv' := [some (.ref x0), some (.int x1)]) (st' := [.int (y8 + 1), .ref x0]) (h' := h7) rfl ?_
      obtain ⟨h9, qh9, hf⟩ := gi_bind hf
      refine gi_EvFp rfl rfl qh9 ?_
      refine gi_EvN 1 (pc' := 47) (lv' := [some (.ref x0), some (.int x1)]) (st' := [.ref x0]) (h' := h9) rfl ?_
      obtain ⟨y10, qy10, hf⟩ := gi_bind hf
      refine gi_EvF rfl (gi_fI_inv qy10) ?_
      cases hf
      exact gi_EvR rfl rfl
/-! X6_wipe AdmiralGuineaModel.wipe()I -/
def f_X6_wipe (h : gi_H) (x0 : Nat) : Option (Int32 × gi_H) :=
  (gi_fI h x0 6 4).bind fun y1 => (gi_fp h x0 6 4 (.int 0)).bind fun h2 => some (y1, h2)
set_option maxRecDepth 20000 in
set_option maxHeartbeats 2000000 in
theorem e_X6_wipe (h : gi_H) (x0 : Nat) (r : (Int32 × gi_H)) (hf : f_X6_wipe h x0 = some r) : gi_Ev M_X6_wipe 0 [some (.ref x0), none] [] h (some (.int r.1), r.2) := by
  unfold f_X6_wipe at hf
  refine gi_EvN 1 (pc' := 1) (lv' := [some (.ref x0), none]) (st' := [.ref x0]) (h' := h) rfl ?_
  obtain ⟨y1, qy1, hf⟩ := gi_bind hf
  refine gi_EvF rfl (gi_fI_inv qy1) ?_
  refine gi_EvN 3 (pc' := 7) (lv' := [some (.ref x0), some (.int y1)]) (st' := [.int 0, .ref x0]) (h' := h) rfl ?_
  obtain ⟨h2, qh2, hf⟩ := gi_bind hf
  refine gi_EvFp rfl rfl qh2 ?_
  refine gi_EvN 1 (pc' := 11) (lv' := [some (.ref x0), some (.int y1)]) (st' := [.int y1]) (h' := h2) rfl ?_
  cases hf
  exact gi_EvR rfl rfl
/-! X6_isLifeSign AdmiralGuineaModel.isLifeSign(I)Z -/
def f_X6_isLifeSign (x0 : Int32) : Option Int32 :=
  (f_X6_in x0 65 70).bind fun y1 => if y1 = 0 ∨ y1 = 1 then some (y1) else none
set_option maxRecDepth 20000 in
set_option maxHeartbeats 2000000 in
theorem e_X6_isLifeSign (h : gi_H) (x0 : Int32) (r : Int32) (hf : f_X6_isLifeSign x0 = some r) : gi_Ev M_X6_isLifeSign 0 [some (.int x0)] [] h (some (.int r), h) := by
  unfold f_X6_isLifeSign at hf
  refine gi_EvN 3 (pc' := 5) (lv' := [some (.int x0)]) (st' := [.int 70, .int 65, .int x0]) (h' := h) rfl ?_
  obtain ⟨y1, qy1, hf⟩ := gi_bind hf
  refine gi_EvCS rfl rfl rfl rfl rfl (e_X6_in h _ _ _ _ qy1) ?_
  show gi_Ev M_X6_isLifeSign 8 [some (.int x0)] [.int y1] h _
  by_cases c2 : y1 = 0 ∨ y1 = 1
  rotate_left
  · rw [if_neg c2] at hf; cases hf
  rw [if_pos c2] at hf
  cases hf
  exact gi_EvRz rfl rfl c2
/-! X6_isBuyerSign AdmiralGuineaModel.isBuyerSign(I)Z -/
def f_X6_isBuyerSign (x0 : Int32) : Option Int32 :=
  (f_X6_in x0 97 100).bind fun y1 => if y1 = 0 ∨ y1 = 1 then some (y1) else none
set_option maxRecDepth 20000 in
set_option maxHeartbeats 2000000 in
theorem e_X6_isBuyerSign (h : gi_H) (x0 : Int32) (r : Int32) (hf : f_X6_isBuyerSign x0 = some r) : gi_Ev M_X6_isBuyerSign 0 [some (.int x0)] [] h (some (.int r), h) := by
  unfold f_X6_isBuyerSign at hf
  refine gi_EvN 3 (pc' := 5) (lv' := [some (.int x0)]) (st' := [.int 100, .int 97, .int x0]) (h' := h) rfl ?_
  obtain ⟨y1, qy1, hf⟩ := gi_bind hf
  refine gi_EvCS rfl rfl rfl rfl rfl (e_X6_in h _ _ _ _ qy1) ?_
  show gi_Ev M_X6_isBuyerSign 8 [some (.int x0)] [.int y1] h _
  by_cases c2 : y1 = 0 ∨ y1 = 1
  rotate_left
  · rw [if_neg c2] at hf; cases hf
  rw [if_pos c2] at hf
  cases hf
  exact gi_EvRz rfl rfl c2
/-! X6_faultOf AdmiralGuineaModel.faultOf()I -/
def f_X6_faultOf_202 (h : gi_H) (k_4 : Nat → Int32 → Int32 → Option Int32) (x0 : Nat) (x2 : Int32) (x4 : Int32) (x5 : Int32) : Option Int32 :=
  if x4 = 0 then some (x2)
  else k_4 x0 x5 (x2 + 1)
set_option maxRecDepth 20000 in
set_option maxHeartbeats 2000000 in
theorem e_X6_faultOf_202 (h : gi_H) (k_4 : Nat → Int32 → Int32 → Option Int32) (hk_4 : ∀ (g3 : Option Value) (g4 : Option Value) (g5 : Option Value) (x0 : Nat) (x1 : Int32) (x2 : Int32) (r : Int32), k_4 x0 x1 x2 = some r → gi_Ev M_X6_faultOf 4 [some (.ref x0), some (.int x1), some (.int x2), g3, g4, g5] [] h (some (.int r), h)) (g1 : Option Value) (g3 : Option Value) (x0 : Nat) (x2 : Int32) (x4 : Int32) (x5 : Int32) (r : Int32) (hf : f_X6_faultOf_202 h k_4 x0 x2 x4 x5 = some r) : gi_Ev M_X6_faultOf 202 [some (.ref x0), g1, some (.int x2), g3, some (.int x4), some (.int x5)] [] h (some (.int r), h) := by
  unfold f_X6_faultOf_202 at hf
  refine gi_EvN 1 (pc' := 204) (lv' := [some (.ref x0), g1, some (.int x2), g3, some (.int x4), some (.int x5)]) (st' := [.int x4]) (h' := h) rfl ?_
  refine gi_Ev_ne rfl (fun c1 => ?_) (fun c1 => ?_)
  · rw [if_pos c1] at hf
    refine gi_EvN 1 (pc' := 208) (lv' := [some (.ref x0), g1, some (.int x2), g3, some (.int x4), some (.int x5)]) (st' := [.int x2]) (h' := h) rfl ?_
    cases hf
    exact gi_EvR rfl rfl
  · rw [if_neg c1] at hf
    refine gi_EvN 4 (pc' := 4) (lv' := [some (.ref x0), some (.int x5), some (.int (x2 + 1)), g3, some (.int x4), some (.int x5)]) (st' := []) (h' := h) rfl ?_
    exact hk_4 _ _ _  _  _  _ _ hf
def f_X6_faultOf_76 (h : gi_H) (k_4 : Nat → Int32 → Int32 → Option Int32) (x0 : Nat) (x2 : Int32) (x4 : Int32) (t0 : Int32) : Option Int32 :=
  f_X6_faultOf_202 h k_4 x0 x2 x4 t0
set_option maxRecDepth 20000 in
set_option maxHeartbeats 2000000 in
theorem e_X6_faultOf_76 (h : gi_H) (k_4 : Nat → Int32 → Int32 → Option Int32) (hk_4 : ∀ (g3 : Option Value) (g4 : Option Value) (g5 : Option Value) (x0 : Nat) (x1 : Int32) (x2 : Int32) (r : Int32), k_4 x0 x1 x2 = some r → gi_Ev M_X6_faultOf 4 [some (.ref x0), some (.int x1), some (.int x2), g3, g4, g5] [] h (some (.int r), h)) (g1 : Option Value) (g3 : Option Value) (g5 : Option Value) (x0 : Nat) (x2 : Int32) (x4 : Int32) (t0 : Int32) (r : Int32) (hf : f_X6_faultOf_76 h k_4 x0 x2 x4 t0 = some r) : gi_Ev M_X6_faultOf 76 [some (.ref x0), g1, some (.int x2), g3, some (.int x4), g5] [.int t0] h (some (.int r), h) := by
  unfold f_X6_faultOf_76 at hf
  refine gi_EvN 2 (pc' := 202) (lv' := [some (.ref x0), g1, some (.int x2), g3, some (.int x4), some (.int t0)]) (st' := []) (h' := h) rfl ?_
  exact e_X6_faultOf_202 h _ hk_4 _ _ _ _ _ _ _ hf
def f_X6_faultOf_51 (h : gi_H) (k_4 : Nat → Int32 → Int32 → Option Int32) (x0 : Nat) (x2 : Int32) (x3 : Int32) (t0 : Int32) : Option Int32 :=
  (f_X6_isBuyerSign x3).bind fun y1 => if y1 = 0 then (f_X6_isLifeSign x3).bind fun y3 => if y3 = 0 then f_X6_faultOf_76 h k_4 x0 x2 t0 0
  else f_X6_faultOf_76 h k_4 x0 x2 t0 5
  else f_X6_faultOf_76 h k_4 x0 x2 t0 1
set_option maxRecDepth 20000 in
set_option maxHeartbeats 2000000 in
theorem e_X6_faultOf_51 (h : gi_H) (k_4 : Nat → Int32 → Int32 → Option Int32) (hk_4 : ∀ (g3 : Option Value) (g4 : Option Value) (g5 : Option Value) (x0 : Nat) (x1 : Int32) (x2 : Int32) (r : Int32), k_4 x0 x1 x2 = some r → gi_Ev M_X6_faultOf 4 [some (.ref x0), some (.int x1), some (.int x2), g3, g4, g5] [] h (some (.int r), h)) (g1 : Option Value) (g4 : Option Value) (g5 : Option Value) (x0 : Nat) (x2 : Int32) (x3 : Int32) (t0 : Int32) (r : Int32) (hf : f_X6_faultOf_51 h k_4 x0 x2 x3 t0 = some r) : gi_Ev M_X6_faultOf 51 [some (.ref x0), g1, some (.int x2), some (.int x3), g4, g5] [.int t0] h (some (.int r), h) := by
  unfold f_X6_faultOf_51 at hf
  refine gi_EvN 2 (pc' := 54) (lv' := [some (.ref x0), g1, some (.int x2), some (.int x3), some (.int t0), g5]) (st' := [.int x3]) (h' := h) rfl ?_
  obtain ⟨y1, qy1, hf⟩ := gi_bind hf
  refine gi_EvCS rfl rfl rfl rfl rfl (e_X6_isBuyerSign h _ _ qy1) ?_
  show gi_Ev M_X6_faultOf 57 [some (.ref x0), g1, some (.int x2), some (.int x3), some (.int t0), g5] [.int y1] h _
  refine gi_Ev_eq rfl (fun c2 => ?_) (fun c2 => ?_)
  · rw [if_pos c2] at hf
    refine gi_EvN 1 (pc' := 65) (lv' := [some (.ref x0), g1, some (.int x2), some (.int x3), some (.int t0), g5]) (st' := [.int x3]) (h' := h) rfl ?_
    obtain ⟨y3, qy3, hf⟩ := gi_bind hf
    refine gi_EvCS rfl rfl rfl rfl rfl (e_X6_isLifeSign h _ _ qy3) ?_
    show gi_Ev M_X6_faultOf 68 [some (.ref x0), g1, some (.int x2), some (.int x3), some (.int t0), g5] [.int y3] h _
    refine gi_Ev_eq rfl (fun c4 => ?_) (fun c4 => ?_)
    · rw [if_pos c4] at hf
      refine gi_EvN 1 (pc' := 76) (lv' := [some (.ref x0), g1, some (.int x2), some (.int x3), some (.int t0), g5]) (st' := [.int 0]) (h' := h) rfl ?_
      exact e_X6_faultOf_76 h _ hk_4 _ _ _ _ _ _ _ _ hf
    · rw [if_neg c4] at hf
      refine gi_EvN 2 (pc' := 76) (lv' := [some (.ref x0), g1, some (.int x2), some (.int x3), some (.int t0), g5]) (st' := [.int 5]) (h' := h) rfl ?_
      exact e_X6_faultOf_76 h _ hk_4 _ _ _ _ _ _ _ _ hf
  · rw [if_neg c2] at hf
    refine gi_EvN 2 (pc' := 76) (lv' := [some (.ref x0), g1, some (.int x2), some (.int x3), some (.int t0), g5]) (st' := [.int 1]) (h' := h) rfl ?_
    exact e_X6_faultOf_76 h _ hk_4 _ _ _ _ _ _ _ _ hf
def f_X6_faultOf_46 (h : gi_H) (k_4 : Nat → Int32 → Int32 → Option Int32) (x0 : Nat) (x2 : Int32) (x3 : Int32) : Option Int32 :=
  f_X6_faultOf_51 h k_4 x0 x2 x3 1
set_option maxRecDepth 20000 in
set_option maxHeartbeats 2000000 in
theorem e_X6_faultOf_46 (h : gi_H) (k_4 : Nat → Int32 → Int32 → Option Int32) (hk_4 : ∀ (g3 : Option Value) (g4 : Option Value) (g5 : Option Value) (x0 : Nat) (x1 : Int32) (x2 : Int32) (r : Int32), k_4 x0 x1 x2 = some r → gi_Ev M_X6_faultOf 4 [some (.ref x0), some (.int x1), some (.int x2), g3, g4, g5] [] h (some (.int r), h)) (g1 : Option Value) (g4 : Option Value) (g5 : Option Value) (x0 : Nat) (x2 : Int32) (x3 : Int32) (r : Int32) (hf : f_X6_faultOf_46 h k_4 x0 x2 x3 = some r) : gi_Ev M_X6_faultOf 46 [some (.ref x0), g1, some (.int x2), some (.int x3), g4, g5] [] h (some (.int r), h) := by
  unfold f_X6_faultOf_46 at hf
  refine gi_EvN 2 (pc' := 51) (lv' := [some (.ref x0), g1, some (.int x2), some (.int x3), g4, g5]) (st' := [.int 1]) (h' := h) rfl ?_
  exact e_X6_faultOf_51 h _ hk_4 _ _ _ _ _ _ _ _ hf
def f_X6_faultOf_123 (h : gi_H) (k_4 : Nat → Int32 → Int32 → Option Int32) (x0 : Nat) (x2 : Int32) (x4 : Int32) (t0 : Int32) : Option Int32 :=
  f_X6_faultOf_202 h k_4 x0 x2 x4 t0
set_option maxRecDepth 20000 in
set_option maxHeartbeats 2000000 in
theorem e_X6_faultOf_123 (h : gi_H) (k_4 : Nat → Int32 → Int32 → Option Int32) (hk_4 : ∀ (g3 : Option Value) (g4 : Option Value) (g5 : Option Value) (x0 : Nat) (x1 : Int32) (x2 : Int32) (r : Int32), k_4 x0 x1 x2 = some r → gi_Ev M_X6_faultOf 4 [some (.ref x0), some (.int x1), some (.int x2), g3, g4, g5] [] h (some (.int r), h)) (g1 : Option Value) (g3 : Option Value) (g5 : Option Value) (x0 : Nat) (x2 : Int32) (x4 : Int32) (t0 : Int32) (r : Int32) (hf : f_X6_faultOf_123 h k_4 x0 x2 x4 t0 = some r) : gi_Ev M_X6_faultOf 123 [some (.ref x0), g1, some (.int x2), g3, some (.int x4), g5] [.int t0] h (some (.int r), h) := by
  unfold f_X6_faultOf_123 at hf
  refine gi_EvN 2 (pc' := 202) (lv' := [some (.ref x0), g1, some (.int x2), g3, some (.int x4), some (.int t0)]) (st' := []) (h' := h) rfl ?_
  exact e_X6_faultOf_202 h _ hk_4 _ _ _ _ _ _ _ hf
def f_X6_faultOf_109 (h : gi_H) (k_4 : Nat → Int32 → Int32 → Option Int32) (x0 : Nat) (x2 : Int32) (x3 : Int32) (t0 : Int32) : Option Int32 :=
  (f_X6_isLifeSign x3).bind fun y1 => if y1 = 0 then f_X6_faultOf_123 h k_4 x0 x2 t0 4
  else f_X6_faultOf_123 h k_4 x0 x2 t0 2
set_option maxRecDepth 20000 in
set_option maxHeartbeats 2000000 in
theorem e_X6_faultOf_109 (h : gi_H) (k_4 : Nat → Int32 → Int32 → Option Int32) (hk_4 : ∀ (g3 : Option Value) (g4 : Option Value) (g5 : Option Value) (x0 : Nat) (x1 : Int32) (x2 : Int32) (r : Int32), k_4 x0 x1 x2 = some r → gi_Ev M_X6_faultOf 4 [some (.ref x0), some (.int x1), some (.int x2), g3, g4, g5] [] h (some (.int r), h)) (g1 : Option Value) (g4 : Option Value) (g5 : Option Value) (x0 : Nat) (x2 : Int32) (x3 : Int32) (t0 : Int32) (r : Int32) (hf : f_X6_faultOf_109 h k_4 x0 x2 x3 t0 = some r) : gi_Ev M_X6_faultOf 109 [some (.ref x0), g1, some (.int x2), some (.int x3), g4, g5] [.int t0] h (some (.int r), h) := by
  unfold f_X6_faultOf_109 at hf
  refine gi_EvN 2 (pc' := 112) (lv' := [some (.ref x0), g1, some (.int x2), some (.int x3), some (.int t0), g5]) (st' := [.int x3]) (h' := h) rfl ?_
  obtain ⟨y1, qy1, hf⟩ := gi_bind hf
  refine gi_EvCS rfl rfl rfl rfl rfl (e_X6_isLifeSign h _ _ qy1) ?_
  show gi_Ev M_X6_faultOf 115 [some (.ref x0), g1, some (.int x2), some (.int x3), some (.int t0), g5] [.int y1] h _
  refine gi_Ev_eq rfl (fun c2 => ?_) (fun c2 => ?_)
  · rw [if_pos c2] at hf
    refine gi_EvN 1 (pc' := 123) (lv' := [some (.ref x0), g1, some (.int x2), some (.int x3), some (.int t0), g5]) (st' := [.int 4]) (h' := h) rfl ?_
    exact e_X6_faultOf_123 h _ hk_4 _ _ _ _ _ _ _ _ hf
  · rw [if_neg c2] at hf
    refine gi_EvN 2 (pc' := 123) (lv' := [some (.ref x0), g1, some (.int x2), some (.int x3), some (.int t0), g5]) (st' := [.int 2]) (h' := h) rfl ?_
    exact e_X6_faultOf_123 h _ hk_4 _ _ _ _ _ _ _ _ hf
def f_X6_faultOf_104 (h : gi_H) (k_4 : Nat → Int32 → Int32 → Option Int32) (x0 : Nat) (x2 : Int32) (x3 : Int32) : Option Int32 :=
  f_X6_faultOf_109 h k_4 x0 x2 x3 1
set_option maxRecDepth 20000 in
set_option maxHeartbeats 2000000 in
theorem e_X6_faultOf_104 (h : gi_H) (k_4 : Nat → Int32 → Int32 → Option Int32) (hk_4 : ∀ (g3 : Option Value) (g4 : Option Value) (g5 : Option Value) (x0 : Nat) (x1 : Int32) (x2 : Int32) (r : Int32), k_4 x0 x1 x2 = some r → gi_Ev M_X6_faultOf 4 [some (.ref x0), some (.int x1), some (.int x2), g3, g4, g5] [] h (some (.int r), h)) (g1 : Option Value) (g4 : Option Value) (g5 : Option Value) (x0 : Nat) (x2 : Int32) (x3 : Int32) (r : Int32) (hf : f_X6_faultOf_104 h k_4 x0 x2 x3 = some r) : gi_Ev M_X6_faultOf 104 [some (.ref x0), g1, some (.int x2), some (.int x3), g4, g5] [] h (some (.int r), h) := by
  unfold f_X6_faultOf_104 at hf
  refine gi_EvN 2 (pc' := 109) (lv' := [some (.ref x0), g1, some (.int x2), some (.int x3), g4, g5]) (st' := [.int 1]) (h' := h) rfl ?_
  exact e_X6_faultOf_109 h _ hk_4 _ _ _ _ _ _ _ _ hf
def f_X6_faultOf_158 (h : gi_H) (k_4 : Nat → Int32 → Int32 → Option Int32) (x0 : Nat) (x2 : Int32) (x4 : Int32) (t0 : Int32) : Option Int32 :=
  f_X6_faultOf_202 h k_4 x0 x2 x4 t0
set_option maxRecDepth 20000 in
set_option maxHeartbeats 2000000 in
theorem e_X6_faultOf_158 (h : gi_H) (k_4 : Nat → Int32 → Int32 → Option Int32) (hk_4 : ∀ (g3 : Option Value) (g4 : Option Value) (g5 : Option Value) (x0 : Nat) (x1 : Int32) (x2 : Int32) (r : Int32), k_4 x0 x1 x2 = some r → gi_Ev M_X6_faultOf 4 [some (.ref x0), some (.int x1), some (.int x2), g3, g4, g5] [] h (some (.int r), h)) (g1 : Option Value) (g3 : Option Value) (g5 : Option Value) (x0 : Nat) (x2 : Int32) (x4 : Int32) (t0 : Int32) (r : Int32) (hf : f_X6_faultOf_158 h k_4 x0 x2 x4 t0 = some r) : gi_Ev M_X6_faultOf 158 [some (.ref x0), g1, some (.int x2), g3, some (.int x4), g5] [.int t0] h (some (.int r), h) := by
  unfold f_X6_faultOf_158 at hf
  refine gi_EvN 2 (pc' := 202) (lv' := [some (.ref x0), g1, some (.int x2), g3, some (.int x4), some (.int t0)]) (st' := []) (h' := h) rfl ?_
  exact e_X6_faultOf_202 h _ hk_4 _ _ _ _ _ _ _ hf
def f_X6_faultOf_138 (h : gi_H) (k_4 : Nat → Int32 → Int32 → Option Int32) (x0 : Nat) (x1 : Int32) (x2 : Int32) (x3 : Int32) : Option Int32 :=
  (f_X6_in x3 49 57).bind fun y1 => if x1 = 2 then f_X6_faultOf_158 h k_4 x0 x2 y1 3
  else f_X6_faultOf_158 h k_4 x0 x2 y1 0
set_option maxRecDepth 20000 in
set_option maxHeartbeats 2000000 in
theorem e_X6_faultOf_138 (h : gi_H) (k_4 : Nat → Int32 → Int32 → Option Int32) (hk_4 : ∀ (g3 : Option Value) (g4 : Option Value) (g5 : Option Value) (x0 : Nat) (x1 : Int32) (x2 : Int32) (r : Int32), k_4 x0 x1 x2 = some r → gi_Ev M_X6_faultOf 4 [some (.ref x0), some (.int x1), some (.int x2), g3, g4, g5] [] h (some (.int r), h)) (g4 : Option Value) (g5 : Option Value) (x0 : Nat) (x1 : Int32) (x2 : Int32) (x3 : Int32) (r : Int32) (hf : f_X6_faultOf_138 h k_4 x0 x1 x2 x3 = some r) : gi_Ev M_X6_faultOf 138 [some (.ref x0), some (.int x1), some (.int x2), some (.int x3), g4, g5] [] h (some (.int r), h) := by
  unfold f_X6_faultOf_138 at hf
  refine gi_EvN 3 (pc' := 143) (lv' := [some (.ref x0), some (.int x1), some (.int x2), some (.int x3), g4, g5]) (st' := [.int 57, .int 49, .int x3]) (h' := h) rfl ?_
  obtain ⟨y1, qy1, hf⟩ := gi_bind hf
  refine gi_EvCS rfl rfl rfl rfl rfl (e_X6_in h _ _ _ _ qy1) ?_
  show gi_Ev M_X6_faultOf 146 [some (.ref x0), some (.int x1), some (.int x2), some (.int x3), g4, g5] [.int y1] h _
  refine gi_EvN 3 (pc' := 150) (lv' := [some (.ref x0), some (.int x1), some (.int x2), some (.int x3), some (.int y1), g5]) (st' := [.int 2, .int x1]) (h' := h) rfl ?_
  refine gi_Ev_ine rfl (fun c2 => ?_) (fun c2 => ?_)
  · rw [if_pos c2] at hf
    refine gi_EvN 2 (pc' := 158) (lv' := [some (.ref x0), some (.int x1), some (.int x2), some (.int x3), some (.int y1), g5]) (st' := [.int 3]) (h' := h) rfl ?_
    exact e_X6_faultOf_158 h _ hk_4 _ _ _ _ _ _ _ _ hf
  · rw [if_neg c2] at hf
    refine gi_EvN 1 (pc' := 158) (lv' := [some (.ref x0), some (.int x1), some (.int x2), some (.int x3), some (.int y1), g5]) (st' := [.int 0]) (h' := h) rfl ?_
    exact e_X6_faultOf_158 h _ hk_4 _ _ _ _ _ _ _ _ hf
def f_X6_faultOf_200 (h : gi_H) (k_4 : Nat → Int32 → Int32 → Option Int32) (x0 : Nat) (x2 : Int32) (x5 : Int32) (t0 : Int32) : Option Int32 :=
  f_X6_faultOf_202 h k_4 x0 x2 t0 x5
set_option maxRecDepth 20000 in
set_option maxHeartbeats 2000000 in
theorem e_X6_faultOf_200 (h : gi_H) (k_4 : Nat → Int32 → Int32 → Option Int32) (hk_4 : ∀ (g3 : Option Value) (g4 : Option Value) (g5 : Option Value) (x0 : Nat) (x1 : Int32) (x2 : Int32) (r : Int32), k_4 x0 x1 x2 = some r → gi_Ev M_X6_faultOf 4 [some (.ref x0), some (.int x1), some (.int x2), g3, g4, g5] [] h (some (.int r), h)) (g1 : Option Value) (g3 : Option Value) (g4 : Option Value) (x0 : Nat) (x2 : Int32) (x5 : Int32) (t0 : Int32) (r : Int32) (hf : f_X6_faultOf_200 h k_4 x0 x2 x5 t0 = some r) : gi_Ev M_X6_faultOf 200 [some (.ref x0), g1, some (.int x2), g3, g4, some (.int x5)] [.int t0] h (some (.int r), h) := by
  unfold f_X6_faultOf_200 at hf
  refine gi_EvN 1 (pc' := 202) (lv' := [some (.ref x0), g1, some (.int x2), (gi_cl g3), some (.int t0), some (.int x5)]) (st' := []) (h' := h) rfl ?_
  exact e_X6_faultOf_202 h _ hk_4 _ _ _ _ _ _ _ hf
def f_X6_faultOf_195 (h : gi_H) (k_4 : Nat → Int32 → Int32 → Option Int32) (x0 : Nat) (x2 : Int32) (x5 : Int32) : Option Int32 :=
  f_X6_faultOf_200 h k_4 x0 x2 x5 1
set_option maxRecDepth 20000 in
set_option maxHeartbeats 2000000 in
theorem e_X6_faultOf_195 (h : gi_H) (k_4 : Nat → Int32 → Int32 → Option Int32) (hk_4 : ∀ (g3 : Option Value) (g4 : Option Value) (g5 : Option Value) (x0 : Nat) (x1 : Int32) (x2 : Int32) (r : Int32), k_4 x0 x1 x2 = some r → gi_Ev M_X6_faultOf 4 [some (.ref x0), some (.int x1), some (.int x2), g3, g4, g5] [] h (some (.int r), h)) (g1 : Option Value) (g3 : Option Value) (g4 : Option Value) (x0 : Nat) (x2 : Int32) (x5 : Int32) (r : Int32) (hf : f_X6_faultOf_195 h k_4 x0 x2 x5 = some r) : gi_Ev M_X6_faultOf 195 [some (.ref x0), g1, some (.int x2), g3, g4, some (.int x5)] [] h (some (.int r), h) := by
  unfold f_X6_faultOf_195 at hf
  refine gi_EvN 2 (pc' := 200) (lv' := [some (.ref x0), g1, some (.int x2), g3, g4, some (.int x5)]) (st' := [.int 1]) (h' := h) rfl ?_
  exact e_X6_faultOf_200 h _ hk_4 _ _ _ _ _ _ _ _ hf
def f_X6_faultOf_218 (h : gi_H) (x0 : Nat) (x1 : Int32) : Option Int32 :=
  if x1 = 0 then some ((-6))
  else (gi_fI h x0 6 4).bind fun y2 => some (y2)
set_option maxRecDepth 20000 in
set_option maxHeartbeats 2000000 in
theorem e_X6_faultOf_218 (h : gi_H) (g2 : Option Value) (g3 : Option Value) (g4 : Option Value) (g5 : Option Value) (x0 : Nat) (x1 : Int32) (r : Int32) (hf : f_X6_faultOf_218 h x0 x1 = some r) : gi_Ev M_X6_faultOf 218 [some (.ref x0), some (.int x1), g2, g3, g4, g5] [] h (some (.int r), h) := by
  unfold f_X6_faultOf_218 at hf
  refine gi_EvN 1 (pc' := 219) (lv' := [some (.ref x0), some (.int x1), g2, g3, g4, g5]) (st' := [.int x1]) (h' := h) rfl ?_
  refine gi_Ev_ne rfl (fun c1 => ?_) (fun c1 => ?_)
  · rw [if_pos c1] at hf
    refine gi_EvN 2 (pc' := 231) (lv' := [some (.ref x0), some (.int x1), g2, g3, g4, g5]) (st' := [.int (-6)]) (h' := h) rfl ?_
    cases hf
    exact gi_EvR rfl rfl
  · rw [if_neg c1] at hf
    refine gi_EvN 1 (pc' := 228) (lv' := [some (.ref x0), some (.int x1), g2, g3, g4, g5]) (st' := [.ref x0]) (h' := h) rfl ?_
    obtain ⟨y2, qy2, hf⟩ := gi_bind hf
    refine gi_EvF rfl (gi_fI_inv qy2) ?_
    cases hf
    exact gi_EvR rfl rfl
def f_X6_faultOf_4 (h : gi_H) : Nat → Nat → Int32 → Int32 → Option Int32
  | 0, _, _, _ => none
  | n + 1, x0, x1, x2 => (gi_fI h x0 6 4).bind fun y1 => if y1 ≤ x2 then f_X6_faultOf_218 h x0 x1
  else (gi_fR h x0 6 5).bind fun y3 => (gi_ai h y3 0 x2).bind fun y4 => if x1 = 0 then (f_X6_isBuyerSign y4).bind fun y6 => if y6 = 0 then (f_X6_isLifeSign y4).bind fun y8 => if y8 = 0 then if y4 = 46 then f_X6_faultOf_46 h (f_X6_faultOf_4 h n) x0 x2 y4
  else f_X6_faultOf_51 h (f_X6_faultOf_4 h n) x0 x2 y4 0
  else f_X6_faultOf_46 h (f_X6_faultOf_4 h n) x0 x2 y4
  else f_X6_faultOf_46 h (f_X6_faultOf_4 h n) x0 x2 y4
  else if x1 = 1 then (f_X6_isLifeSign y4).bind fun y12 => if y12 = 0 then (f_X6_in y4 48 57).bind fun y14 => if y14 = 0 then f_X6_faultOf_109 h (f_X6_faultOf_4 h n) x0 x2 y4 0
  else f_X6_faultOf_104 h (f_X6_faultOf_4 h n) x0 x2 y4
  else f_X6_faultOf_104 h (f_X6_faultOf_4 h n) x0 x2 y4
  else if x1 = 2 then f_X6_faultOf_138 h (f_X6_faultOf_4 h n) x0 x1 x2 y4
  else if x1 = 3 then f_X6_faultOf_138 h (f_X6_faultOf_4 h n) x0 x1 x2 y4
  else if x1 = 4 then (f_X6_isBuyerSign y4).bind fun y19 => f_X6_faultOf_202 h (f_X6_faultOf_4 h n) x0 x2 y19 0
  else if y4 = 43 then f_X6_faultOf_195 h (f_X6_faultOf_4 h n) x0 x2 0
  else if y4 = 45 then f_X6_faultOf_195 h (f_X6_faultOf_4 h n) x0 x2 0
  else if y4 = 120 then f_X6_faultOf_195 h (f_X6_faultOf_4 h n) x0 x2 0
  else f_X6_faultOf_200 h (f_X6_faultOf_4 h n) x0 x2 0 0
set_option maxRecDepth 20000 in
set_option maxHeartbeats 2000000 in
theorem e_X6_faultOf_4 (h : gi_H) : ∀ (n : Nat) (g3 : Option Value) (g4 : Option Value) (g5 : Option Value) (x0 : Nat) (x1 : Int32) (x2 : Int32) (r : Int32), f_X6_faultOf_4 h n x0 x1 x2 = some r → gi_Ev M_X6_faultOf 4 [some (.ref x0), some (.int x1), some (.int x2), g3, g4, g5] [] h (some (.int r), h) := by
  intro n
  induction n with
  | zero =>
    intro g3 g4 g5 x0 x1 x2 r hf
    unfold f_X6_faultOf_4 at hf
    cases hf
  | succ n ih =>
    intro g3 g4 g5 x0 x1 x2 r hf
    unfold f_X6_faultOf_4 at hf
    refine gi_EvN 2 (pc' := 6) (lv' := [some (.ref x0), some (.int x1), some (.int x2), g3, g4, g5]) (st' := [.ref x0, .int x2]) (h' := h) rfl ?_
    obtain ⟨y1, qy1, hf⟩ := gi_bind hf
    refine gi_EvF rfl (gi_fI_inv qy1) ?_
    refine gi_Ev_ige rfl (fun c2 => ?_) (fun c2 => ?_)
    · rw [if_pos c2] at hf
      exact e_X6_faultOf_218 h _ _ _ _ _ _ _ hf
    · rw [if_neg c2] at hf
      refine gi_EvN 1 (pc' := 13) (lv' := [some (.ref x0), some (.int x1), some (.int x2), g3, g4, g5]) (st' := [.ref x0]) (h' := h) rfl ?_
      obtain ⟨y3, qy3, hf⟩ := gi_bind hf
      refine gi_EvF rfl (gi_fR_inv qy3) ?_
      refine gi_EvN 1 (pc' := 17) (lv' := [some (.ref x0), some (.int x1), some (.int x2), g3, g4, g5]) (st' := [.int x2, .ref y3]) (h' := h) rfl ?_
      obtain ⟨y4, qy4, hf⟩ := gi_bind hf
      refine gi_EvAi rfl qy4 ?_
      refine gi_EvN 4 (pc' := 23) (lv' := [some (.ref x0), some (.int x1), some (.int x2), some (.int y4), (gi_cl g4), some (.int 0)]) (st' := [.int x1]) (h' := h) rfl ?_
      refine gi_Ev_ne rfl (fun c5 => ?_) (fun c5 => ?_)
      · rw [if_pos c5] at hf
        refine gi_EvN 1 (pc' := 27) (lv' := [some (.ref x0), some (.int x1), some (.int x2), some (.int y4), (gi_cl g4), some (.int 0)]) (st' := [.int y4]) (h' := h) rfl ?_
        obtain ⟨y6, qy6, hf⟩ := gi_bind hf
        refine gi_EvCS rfl rfl rfl rfl rfl (e_X6_isBuyerSign h _ _ qy6) ?_
        show gi_Ev M_X6_faultOf 30 [some (.ref x0), some (.int x1), some (.int x2), some (.int y4), (gi_cl g4), some (.int 0)] [.int y6] h _
        refine gi_Ev_ne rfl (fun c7 => ?_) (fun c7 => ?_)
        · rw [if_pos c7] at hf
          refine gi_EvN 1 (pc' := 34) (lv' := [some (.ref x0), some (.int x1), some (.int x2), some (.int y4), (gi_cl g4), some (.int 0)]) (st' := [.int y4]) (h' := h) rfl ?_
          obtain ⟨y8, qy8, hf⟩ := gi_bind hf
          refine gi_EvCS rfl rfl rfl rfl rfl (e_X6_isLifeSign h _ _ qy8) ?_
          show gi_Ev M_X6_faultOf 37 [some (.ref x0), some (.int x1), some (.int x2), some (.int y4), (gi_cl g4), some (.int 0)] [.int y8] h _
          refine gi_Ev_ne rfl (fun c9 => ?_) (fun c9 => ?_)
          · rw [if_pos c9] at hf
            refine gi_EvN 2 (pc' := 43) (lv' := [some (.ref x0), some (.int x1), some (.int x2), some (.int y4), (gi_cl g4), some (.int 0)]) (st' := [.int 46, .int y4]) (h' := h) rfl ?_
            refine gi_Ev_ine rfl (fun c10 => ?_) (fun c10 => ?_)
            · rw [if_pos c10] at hf
              exact e_X6_faultOf_46 h _ ih _ _ _ _ _ _ _ hf
            · rw [if_neg c10] at hf
              refine gi_EvN 1 (pc' := 51) (lv' := [some (.ref x0), some (.int x1), some (.int x2), some (.int y4), (gi_cl g4), some (.int 0)]) (st' := [.int 0]) (h' := h) rfl ?_
              exact e_X6_faultOf_51 h _ ih _ _ _ _ _ _ _ _ hf
          · rw [if_neg c9] at hf
            exact e_X6_faultOf_46 h _ ih _ _ _ _ _ _ _ hf
        · rw [if_neg c7] at hf
          exact e_X6_faultOf_46 h _ ih _ _ _ _ _ _ _ hf
      · rw [if_neg c5] at hf
        refine gi_EvN 2 (pc' := 83) (lv' := [some (.ref x0), some (.int x1), some (.int x2), some (.int y4), (gi_cl g4), some (.int 0)]) (st' := [.int 1, .int x1]) (h' := h) rfl ?_
        refine gi_Ev_ine rfl (fun c11 => ?_) (fun c11 => ?_)
        · rw [if_pos c11] at hf
          refine gi_EvN 1 (pc' := 87) (lv' := [some (.ref x0), some (.int x1), some (.int x2), some (.int y4), (gi_cl g4), some (.int 0)]) (st' := [.int y4]) (h' := h) rfl ?_
          obtain ⟨y12, qy12, hf⟩ := gi_bind hf
          refine gi_EvCS rfl rfl rfl rfl rfl (e_X6_isLifeSign h _ _ qy12) ?_
          show gi_Ev M_X6_faultOf 90 [some (.ref x0), some (.int x1), some (.int x2), some (.int y4), (gi_cl g4), some (.int 0)] [.int y12] h _
          refine gi_Ev_ne rfl (fun c13 => ?_) (fun c13 => ?_)
          · rw [if_pos c13] at hf
            refine gi_EvN 3 (pc' := 98) (lv' := [some (.ref x0), some (.int x1), some (.int x2), some (.int y4), (gi_cl g4), some (.int 0)]) (st' := [.int 57, .int 48, .int y4]) (h' := h) rfl ?_
            obtain ⟨y14, qy14, hf⟩ := gi_bind hf
            refine gi_EvCS rfl rfl rfl rfl rfl (e_X6_in h _ _ _ _ qy14) ?_
            show gi_Ev M_X6_faultOf 101 [some (.ref x0), some (.int x1), some (.int x2), some (.int y4), (gi_cl g4), some (.int 0)] [.int y14] h _
            refine gi_Ev_eq rfl (fun c15 => ?_) (fun c15 => ?_)
            · rw [if_pos c15] at hf
              refine gi_EvN 1 (pc' := 109) (lv' := [some (.ref x0), some (.int x1), some (.int x2), some (.int y4), (gi_cl g4), some (.int 0)]) (st' := [.int 0]) (h' := h) rfl ?_
              exact e_X6_faultOf_109 h _ ih _ _ _ _ _ _ _ _ hf
            · rw [if_neg c15] at hf
              exact e_X6_faultOf_104 h _ ih _ _ _ _ _ _ _ hf
          · rw [if_neg c13] at hf
            exact e_X6_faultOf_104 h _ ih _ _ _ _ _ _ _ hf
        · rw [if_neg c11] at hf
          refine gi_EvN 2 (pc' := 130) (lv' := [some (.ref x0), some (.int x1), some (.int x2), some (.int y4), (gi_cl g4), some (.int 0)]) (st' := [.int 2, .int x1]) (h' := h) rfl ?_
          refine gi_Ev_ieq rfl (fun c16 => ?_) (fun c16 => ?_)
          · rw [if_pos c16] at hf
            exact e_X6_faultOf_138 h _ ih _ _ _ _ _ _ _ hf
          · rw [if_neg c16] at hf
            refine gi_EvN 2 (pc' := 135) (lv' := [some (.ref x0), some (.int x1), some (.int x2), some (.int y4), (gi_cl g4), some (.int 0)]) (st' := [.int 3, .int x1]) (h' := h) rfl ?_
            refine gi_Ev_ine rfl (fun c17 => ?_) (fun c17 => ?_)
            · rw [if_pos c17] at hf
              exact e_X6_faultOf_138 h _ ih _ _ _ _ _ _ _ hf
            · rw [if_neg c17] at hf
              refine gi_EvN 2 (pc' := 165) (lv' := [some (.ref x0), some (.int x1), some (.int x2), some (.int y4), (gi_cl g4), some (.int 0)]) (st' := [.int 4, .int x1]) (h' := h) rfl ?_
              refine gi_Ev_ine rfl (fun c18 => ?_) (fun c18 => ?_)
              · rw [if_pos c18] at hf
                refine gi_EvN 1 (pc' := 169) (lv' := [some (.ref x0), some (.int x1), some (.int x2), some (.int y4), (gi_cl g4), some (.int 0)]) (st' := [.int y4]) (h' := h) rfl ?_
                obtain ⟨y19, qy19, hf⟩ := gi_bind hf
                refine gi_EvCS rfl rfl rfl rfl rfl (e_X6_isBuyerSign h _ _ qy19) ?_
                show gi_Ev M_X6_faultOf 172 [some (.ref x0), some (.int x1), some (.int x2), some (.int y4), (gi_cl g4), some (.int 0)] [.int y19] h _
                refine gi_EvN 2 (pc' := 202) (lv' := [some (.ref x0), some (.int x1), some (.int x2), some (.int y4), some (.int y19), some (.int 0)]) (st' := []) (h' := h) rfl ?_
                exact e_X6_faultOf_202 h _ ih _ _ _ _ _ _ _ hf
              · rw [if_neg c18] at hf
                refine gi_EvN 2 (pc' := 180) (lv' := [some (.ref x0), some (.int x1), some (.int x2), some (.int y4), (gi_cl g4), some (.int 0)]) (st' := [.int 43, .int y4]) (h' := h) rfl ?_
                refine gi_Ev_ieq rfl (fun c20 => ?_) (fun c20 => ?_)
                · rw [if_pos c20] at hf
                  exact e_X6_faultOf_195 h _ ih _ _ _ _ _ _ _ hf
                · rw [if_neg c20] at hf
                  refine gi_EvN 2 (pc' := 186) (lv' := [some (.ref x0), some (.int x1), some (.int x2), some (.int y4), (gi_cl g4), some (.int 0)]) (st' := [.int 45, .int y4]) (h' := h) rfl ?_
                  refine gi_Ev_ieq rfl (fun c21 => ?_) (fun c21 => ?_)
                  · rw [if_pos c21] at hf
                    exact e_X6_faultOf_195 h _ ih _ _ _ _ _ _ _ hf
                  · rw [if_neg c21] at hf
                    refine gi_EvN 2 (pc' := 192) (lv' := [some (.ref x0), some (.int x1), some (.int x2), some (.int y4), (gi_cl g4), some (.int 0)]) (st' := [.int 120, .int y4]) (h' := h) rfl ?_
                    refine gi_Ev_ine rfl (fun c22 => ?_) (fun c22 => ?_)
                    · rw [if_pos c22] at hf
                      exact e_X6_faultOf_195 h _ ih _ _ _ _ _ _ _ hf
                    · rw [if_neg c22] at hf
                      refine gi_EvN 1 (pc' := 200) (lv' := [some (.ref x0), some (.int x1), some (.int x2), some (.int y4), (gi_cl g4), some (.int 0)]) (st' := [.int 0]) (h' := h) rfl ?_
                      exact e_X6_faultOf_200 h _ ih _ _ _ _ _ _ _ _ hf
def f_X6_faultOf (h : gi_H) (x0 : Nat) : Option Int32 :=
  f_X6_faultOf_4 h gi_F x0 0 0
set_option maxRecDepth 20000 in
set_option maxHeartbeats 2000000 in
theorem e_X6_faultOf (h : gi_H) (x0 : Nat) (r : Int32) (hf : f_X6_faultOf h x0 = some r) : gi_Ev M_X6_faultOf 0 [some (.ref x0), none, none, none, none, none] [] h (some (.int r), h) := by
  unfold f_X6_faultOf at hf
  refine gi_EvN 4 (pc' := 4) (lv' := [some (.ref x0), some (.int 0), some (.int 0), none, none, none]) (st' := []) (h' := h) rfl ?_
  exact e_X6_faultOf_4 h gi_F _ _ _ _ _ _ _ hf
/-! X6_fault AdmiralGuineaModel.fault()I -/
def f_X6_fault (h : gi_H) (x0 : Nat) : Option Int32 :=
  if gi_is h x0 6 = true then (f_X6_faultOf h x0).bind fun y1 => some (y1) else none
set_option maxRecDepth 20000 in
set_option maxHeartbeats 2000000 in
theorem e_X6_fault (h : gi_H) (x0 : Nat) (r : Int32) (hf : f_X6_fault h x0 = some r) : gi_Ev M_X6_fault 0 [some (.ref x0)] [] h (some (.int r), h) := by
  unfold f_X6_fault at hf
  refine gi_EvN 1 (pc' := 1) (lv' := [some (.ref x0)]) (st' := [.ref x0]) (h' := h) rfl ?_
  by_cases c2 : gi_is h x0 6 = true
  rotate_left
  · rw [if_neg c2] at hf; cases hf
  rw [if_pos c2] at hf
  obtain ⟨y1, qy1, hf⟩ := gi_bind hf
  refine gi_EvCV rfl rfl c2 rfl rfl (e_X6_faultOf h _ _ qy1) ?_
  show gi_Ev M_X6_fault 4 [some (.ref x0)] [.int y1] h _
  cases hf
  exact gi_EvR rfl rfl
/-! X6_asNow AdmiralGuineaModel.asNow()V -/
def f_X6_asNow_2 : Nat → gi_H → Nat → Int32 → Option gi_H
  | 0, _, _, _ => none
  | n + 1, h, x0, x1 => if 63 ≤ x1 then some h
  else (gi_fR h x0 6 1).bind fun y2 => (gi_fR h x0 6 0).bind fun y3 => (gi_ai h y3 0 x1).bind fun y4 => (gi_pi h y2 0 x1 y4).bind fun h5 => f_X6_asNow_2 n h5 x0 (x1 + 1)
set_option maxRecDepth 20000 in
set_option maxHeartbeats 2000000 in
theorem e_X6_asNow_2 : ∀ (n : Nat) (h : gi_H) (x0 : Nat) (x1 : Int32) (r : gi_H), f_X6_asNow_2 n h x0 x1 = some r → gi_Ev M_X6_asNow 2 [some (.ref x0), some (.int x1)] [] h (none, r) := by
  intro n
  induction n with
  | zero =>
    intro h x0 x1 r hf
    unfold f_X6_asNow_2 at hf
    cases hf
  | succ n ih =>
    intro h x0 x1 r hf
    unfold f_X6_asNow_2 at hf
    refine gi_EvN 2 (pc' := 5) (lv' := [some (.ref x0), some (.int x1)]) (st' := [.int 63, .int x1]) (h' := h) rfl ?_
    refine gi_Ev_ige rfl (fun c1 => ?_) (fun c1 => ?_)
    · rw [if_pos c1] at hf
      cases hf
      exact gi_EvR rfl rfl
    · rw [if_neg c1] at hf
      refine gi_EvN 1 (pc' := 9) (lv' := [some (.ref x0), some (.int x1)]) (st' := [.ref x0]) (h' := h) rfl ?_
      obtain ⟨y2, qy2, hf⟩ := gi_bind hf
      refine gi_EvF rfl (gi_fR_inv qy2) ?_
      refine gi_EvN 2 (pc' := 14) (lv' := [some (.ref x0), some (.int x1)]) (st' := [.ref x0, .int x1, .ref y2]) (h' := h) rfl ?_
      obtain ⟨y3, qy3, hf⟩ := gi_bind hf
      refine gi_EvF rfl (gi_fR_inv qy3) ?_
      refine gi_EvN 1 (pc' := 18) (lv' := [some (.ref x0), some (.int x1)]) (st' := [.int x1, .ref y3, .int x1, .ref y2]) (h' := h) rfl ?_
      obtain ⟨y4, qy4, hf⟩ := gi_bind hf
      refine gi_EvAi rfl qy4 ?_
      obtain ⟨h5, qh5, hf⟩ := gi_bind hf
      refine gi_EvPi rfl qh5 ?_
      refine gi_EvN 2 (pc' := 2) (lv' := [some (.ref x0), some (.int (x1 + 1))]) (st' := []) (h' := h5) rfl ?_
      exact ih  _ _  _ _ hf
def f_X6_asNow (h : gi_H) (x0 : Nat) : Option gi_H :=
  f_X6_asNow_2 gi_F h x0 0
set_option maxRecDepth 20000 in
set_option maxHeartbeats 2000000 in
theorem e_X6_asNow (h : gi_H) (x0 : Nat) (r : gi_H) (hf : f_X6_asNow h x0 = some r) : gi_Ev M_X6_asNow 0 [some (.ref x0), none] [] h (none, r) := by
  unfold f_X6_asNow at hf
  refine gi_EvN 2 (pc' := 2) (lv' := [some (.ref x0), some (.int 0)]) (st' := []) (h' := h) rfl ?_
  exact e_X6_asNow_2 gi_F h _ _ _ hf
/-! X6_power AdmiralGuineaModel.power(JI)J -/
def f_X6_power_5 : Nat → Int64 → Int32 → Int64 → Int32 → Option Int64
  | 0, _, _, _, _ => none
  | n + 1, x0, x2, x3, x5 => if x2 ≤ x5 then some (x3)
  else f_X6_power_5 n x0 x2 (x3 * x0) (x5 + 1)
set_option maxRecDepth 20000 in
set_option maxHeartbeats 2000000 in
theorem e_X6_power_5 (h : gi_H) : ∀ (n : Nat) (g1 : Option Value) (g4 : Option Value) (x0 : Int64) (x2 : Int32) (x3 : Int64) (x5 : Int32) (r : Int64), f_X6_power_5 n x0 x2 x3 x5 = some r → gi_Ev M_X6_power 5 [some (.long x0), g1, some (.int x2), some (.long x3), g4, some (.int x5)] [] h (some (.long r), h) := by
  intro n
  induction n with
  | zero =>
    intro g1 g4 x0 x2 x3 x5 r hf
    unfold f_X6_power_5 at hf
    cases hf
  | succ n ih =>
    intro g1 g4 x0 x2 x3 x5 r hf
    unfold f_X6_power_5 at hf
    refine gi_EvN 2 (pc' := 8) (lv' := [some (.long x0), g1, some (.int x2), some (.long x3), g4, some (.int x5)]) (st' := [.int x2, .int x5]) (h' := h) rfl ?_
    refine gi_Ev_ige rfl (fun c1 => ?_) (fun c1 => ?_)
    · rw [if_pos c1] at hf
      refine gi_EvN 1 (pc' := 22) (lv' := [some (.long x0), g1, some (.int x2), some (.long x3), g4, some (.int x5)]) (st' := [.long x3]) (h' := h) rfl ?_
      cases hf
      exact gi_EvR rfl rfl
    · rw [if_neg c1] at hf
      refine gi_EvN 6 (pc' := 5) (lv' := [some (.long x0), g1, some (.int x2), some (.long (x3 * x0)), none, some (.int (x5 + 1))]) (st' := []) (h' := h) rfl ?_
      exact ih _ _  _  _  _  _ _ hf
def f_X6_power (x0 : Int64) (x2 : Int32) : Option Int64 :=
  f_X6_power_5 gi_F x0 x2 1 0
set_option maxRecDepth 20000 in
set_option maxHeartbeats 2000000 in
theorem e_X6_power (h : gi_H) (x0 : Int64) (x2 : Int32) (r : Int64) (hf : f_X6_power x0 x2 = some r) : gi_Ev M_X6_power 0 [some (.long x0), none, some (.int x2), none, none, none] [] h (some (.long r), h) := by
  unfold f_X6_power at hf
  refine gi_EvN 4 (pc' := 5) (lv' := [some (.long x0), none, some (.int x2), some (.long 1), none, some (.int 0)]) (st' := []) (h' := h) rfl ?_
  exact e_X6_power_5 h gi_F _ _ _ _ _ _ _ hf
/-! X6_priceOf AdmiralGuineaModel.priceOf(III)I -/
def f_X6_priceOf (x0 : Int32) (x1 : Int32) (x2 : Int32) : Option Int32 :=
  (f_X6_power 10 x2).bind fun y1 => (f_X6_power (10 - (Int32.toInt64 x1)) x2).bind fun y2 => if y1 = 0 then none else some ((Int64.toInt32 (((((Int32.toInt64 x0) * (y1 - y2)) + y1) - 1) / y1)))
set_option maxRecDepth 20000 in
set_option maxHeartbeats 2000000 in
theorem e_X6_priceOf (h : gi_H) (x0 : Int32) (x1 : Int32) (x2 : Int32) (r : Int32) (hf : f_X6_priceOf x0 x1 x2 = some r) : gi_Ev M_X6_priceOf 0 [some (.int x0), some (.int x1), some (.int x2), none, none, none, none] [] h (some (.int r), h) := by
  unfold f_X6_priceOf at hf
  refine gi_EvN 2 (pc' := 4) (lv' := [some (.int x0), some (.int x1), some (.int x2), none, none, none, none]) (st' := [.int x2, .long 10]) (h' := h) rfl ?_
  obtain ⟨y1, qy1, hf⟩ := gi_bind hf
  refine gi_EvCS rfl rfl rfl rfl rfl (e_X6_power h _ _ _ qy1) ?_
  show gi_Ev M_X6_priceOf 7 [some (.int x0), some (.int x1), some (.int x2), none, none, none, none] [.long y1] h _
  refine gi_EvN 9 (pc' := 18) (lv' := [some (.int x0), some (.int x1), some (.int x2), some (.long y1), none, none, none]) (st' := [.int x2, .long (10 - (Int32.toInt64 x1)), .long y1, .long (Int32.toInt64 x0)]) (h' := h) rfl ?_
  obtain ⟨y2, qy2, hf⟩ := gi_bind hf
  refine gi_EvCS rfl rfl rfl rfl rfl (e_X6_power h _ _ _ qy2) ?_
  show gi_Ev M_X6_priceOf 21 [some (.int x0), some (.int x1), some (.int x2), some (.long y1), none, none, none] [.long y2, .long y1, .long (Int32.toInt64 x0)] h _
  refine gi_EvN 9 (pc' := 32) (lv' := [some (.int x0), some (.int x1), some (.int x2), some (.long y1), none, some (.long ((Int32.toInt64 x0) * (y1 - y2))), none]) (st' := [.long y1, .long ((((Int32.toInt64 x0) * (y1 - y2)) + y1) - 1)]) (h' := h) rfl ?_
  by_cases c3 : y1 = 0
  · rw [if_pos c3] at hf; cases hf
  rw [if_neg c3] at hf
  refine gi_EvDl rfl c3 ?_
  refine gi_EvN 1 (pc' := 34) (lv' := [some (.int x0), some (.int x1), some (.int x2), some (.long y1), none, some (.long ((Int32.toInt64 x0) * (y1 - y2))), none]) (st' := [.int (Int64.toInt32 (((((Int32.toInt64 x0) * (y1 - y2)) + y1) - 1) / y1))]) (h' := h) rfl ?_
  cases hf
  exact gi_EvR rfl rfl
/-! X6_holder AdmiralGuineaModel.holder(I)I -/
def f_X6_holder (h : gi_H) (x0 : Nat) (x1 : Int32) : Option Int32 :=
  (gi_fR h x0 6 1).bind fun y1 => (gi_ai h y1 0 (15 + (4 * x1))).bind fun y2 => some (y2)
set_option maxRecDepth 20000 in
set_option maxHeartbeats 2000000 in
theorem e_X6_holder (h : gi_H) (x0 : Nat) (x1 : Int32) (r : Int32) (hf : f_X6_holder h x0 x1 = some r) : gi_Ev M_X6_holder 0 [some (.ref x0), some (.int x1)] [] h (some (.int r), h) := by
  unfold f_X6_holder at hf
  refine gi_EvN 1 (pc' := 1) (lv' := [some (.ref x0), some (.int x1)]) (st' := [.ref x0]) (h' := h) rfl ?_
  obtain ⟨y1, qy1, hf⟩ := gi_bind hf
  refine gi_EvF rfl (gi_fR_inv qy1) ?_
  refine gi_EvN 5 (pc' := 10) (lv' := [some (.ref x0), some (.int x1)]) (st' := [.int (15 + (4 * x1)), .ref y1]) (h' := h) rfl ?_
  obtain ⟨y2, qy2, hf⟩ := gi_bind hf
  refine gi_EvAi rfl qy2 ?_
  cases hf
  exact gi_EvR rfl rfl
/-! X6_lifeOf AdmiralGuineaModel.lifeOf(I)I -/
def f_X6_lifeOf (h : gi_H) (x0 : Nat) (x1 : Int32) : Option Int32 :=
  (gi_fR h x0 6 1).bind fun y1 => (gi_ai h y1 0 (16 + (4 * x1))).bind fun y2 => some (y2)
set_option maxRecDepth 20000 in
set_option maxHeartbeats 2000000 in
theorem e_X6_lifeOf (h : gi_H) (x0 : Nat) (x1 : Int32) (r : Int32) (hf : f_X6_lifeOf h x0 x1 = some r) : gi_Ev M_X6_lifeOf 0 [some (.ref x0), some (.int x1)] [] h (some (.int r), h) := by
  unfold f_X6_lifeOf at hf
  refine gi_EvN 1 (pc' := 1) (lv' := [some (.ref x0), some (.int x1)]) (st' := [.ref x0]) (h' := h) rfl ?_
  obtain ⟨y1, qy1, hf⟩ := gi_bind hf
  refine gi_EvF rfl (gi_fR_inv qy1) ?_
  refine gi_EvN 5 (pc' := 10) (lv' := [some (.ref x0), some (.int x1)]) (st' := [.int (16 + (4 * x1)), .ref y1]) (h' := h) rfl ?_
  obtain ⟨y2, qy2, hf⟩ := gi_bind hf
  refine gi_EvAi rfl qy2 ?_
  cases hf
  exact gi_EvR rfl rfl
/-! X6_sumOf AdmiralGuineaModel.sumOf(I)I -/
def f_X6_sumOf (h : gi_H) (x0 : Nat) (x1 : Int32) : Option Int32 :=
  (gi_fR h x0 6 1).bind fun y1 => (gi_ai h y1 0 (17 + (4 * x1))).bind fun y2 => some (y2)
set_option maxRecDepth 20000 in
set_option maxHeartbeats 2000000 in
theorem e_X6_sumOf (h : gi_H) (x0 : Nat) (x1 : Int32) (r : Int32) (hf : f_X6_sumOf h x0 x1 = some r) : gi_Ev M_X6_sumOf 0 [some (.ref x0), some (.int x1)] [] h (some (.int r), h) := by
  unfold f_X6_sumOf at hf
  refine gi_EvN 1 (pc' := 1) (lv' := [some (.ref x0), some (.int x1)]) (st' := [.ref x0]) (h' := h) rfl ?_
  obtain ⟨y1, qy1, hf⟩ := gi_bind hf
  refine gi_EvF rfl (gi_fR_inv qy1) ?_
  refine gi_EvN 5 (pc' := 10) (lv' := [some (.ref x0), some (.int x1)]) (st' := [.int (17 + (4 * x1)), .ref y1]) (h' := h) rfl ?_
  obtain ⟨y2, qy2, hf⟩ := gi_bind hf
  refine gi_EvAi rfl qy2 ?_
  cases hf
  exact gi_EvR rfl rfl
/-! X6_gone AdmiralGuineaModel.gone(I)V -/
def f_X6_gone_42 (h : gi_H) (t0 : Nat) (t1 : Int32) (t2 : Int32) : Option gi_H :=
  (gi_pi h t0 0 t1 t2).bind fun h1 => some h1
set_option maxRecDepth 20000 in
set_option maxHeartbeats 2000000 in
theorem e_X6_gone_42 (g0 : Option Value) (g1 : Option Value) (h : gi_H) (t0 : Nat) (t1 : Int32) (t2 : Int32) (r : gi_H) (hf : f_X6_gone_42 h t0 t1 t2 = some r) : gi_Ev M_X6_gone 42 [g0, g1] [.int t2, .int t1, .ref t0] h (none, r) := by
  unfold f_X6_gone_42 at hf
  obtain ⟨h1, qh1, hf⟩ := gi_bind hf
  refine gi_EvPi rfl qh1 ?_
  cases hf
  exact gi_EvR rfl rfl
def f_X6_gone (h : gi_H) (x0 : Nat) (x1 : Int32) : Option gi_H :=
  (gi_fR h x0 6 1).bind fun y1 => (gi_ai h y1 0 14).bind fun y2 => (gi_pi h y1 0 14 (y2 &&& ((1 <<< (x1 &&& 31)) ^^^ (-1)))).bind fun h3 => (gi_fR h3 x0 6 1).bind fun y4 => (gi_fR h3 x0 6 1).bind fun y5 => (gi_ai h3 y5 0 14).bind fun y6 => if y6 = 0 then f_X6_gone_42 h3 y4 13 0
  else (gi_fR h3 x0 6 1).bind fun y8 => (gi_ai h3 y8 0 13).bind fun y9 => f_X6_gone_42 h3 y4 13 y9
set_option maxRecDepth 20000 in
set_option maxHeartbeats 2000000 in
theorem e_X6_gone (h : gi_H) (x0 : Nat) (x1 : Int32) (r : gi_H) (hf : f_X6_gone h x0 x1 = some r) : gi_Ev M_X6_gone 0 [some (.ref x0), some (.int x1)] [] h (none, r) := by
  unfold f_X6_gone at hf
  refine gi_EvN 1 (pc' := 1) (lv' := [some (.ref x0), some (.int x1)]) (st' := [.ref x0]) (h' := h) rfl ?_
  obtain ⟨y1, qy1, hf⟩ := gi_bind hf
  refine gi_EvF rfl (gi_fR_inv qy1) ?_
  refine gi_EvN 2 (pc' := 7) (lv' := [some (.ref x0), some (.int x1)]) (st' := [.int 14, .ref y1, .int 14, .ref y1]) (h' := h) rfl ?_
  obtain ⟨y2, qy2, hf⟩ := gi_bind hf
  refine gi_EvAi rfl qy2 ?_
  refine gi_EvN 6 (pc' := 14) (lv' := [some (.ref x0), some (.int x1)]) (st' := [.int (y2 &&& ((1 <<< (x1 &&& 31)) ^^^ (-1))), .int 14, .ref y1]) (h' := h) rfl ?_
  obtain ⟨h3, qh3, hf⟩ := gi_bind hf
  refine gi_EvPi rfl qh3 ?_
  refine gi_EvN 1 (pc' := 16) (lv' := [some (.ref x0), some (.int x1)]) (st' := [.ref x0]) (h' := h3) rfl ?_
  obtain ⟨y4, qy4, hf⟩ := gi_bind hf
  refine gi_EvF rfl (gi_fR_inv qy4) ?_
  refine gi_EvN 2 (pc' := 22) (lv' := [some (.ref x0), some (.int x1)]) (st' := [.ref x0, .int 13, .ref y4]) (h' := h3) rfl ?_
  obtain ⟨y5, qy5, hf⟩ := gi_bind hf
  refine gi_EvF rfl (gi_fR_inv qy5) ?_
  refine gi_EvN 1 (pc' := 27) (lv' := [some (.ref x0), some (.int x1)]) (st' := [.int 14, .ref y5, .int 13, .ref y4]) (h' := h3) rfl ?_
  obtain ⟨y6, qy6, hf⟩ := gi_bind hf
  refine gi_EvAi rfl qy6 ?_
  refine gi_Ev_ne rfl (fun c7 => ?_) (fun c7 => ?_)
  · rw [if_pos c7] at hf
    refine gi_EvN 2 (pc' := 42) (lv' := [some (.ref x0), some (.int x1)]) (st' := [.int 0, .int 13, .ref y4]) (h' := h3) rfl ?_
    exact e_X6_gone_42 _ _ h3 _ _ _ _ hf
  · rw [if_neg c7] at hf
    refine gi_EvN 1 (pc' := 36) (lv' := [some (.ref x0), some (.int x1)]) (st' := [.ref x0, .int 13, .ref y4]) (h' := h3) rfl ?_
    obtain ⟨y8, qy8, hf⟩ := gi_bind hf
    refine gi_EvF rfl (gi_fR_inv qy8) ?_
    refine gi_EvN 1 (pc' := 41) (lv' := [some (.ref x0), some (.int x1)]) (st' := [.int 13, .ref y8, .int 13, .ref y4]) (h' := h3) rfl ?_
    obtain ⟨y9, qy9, hf⟩ := gi_bind hf
    refine gi_EvAi rfl qy9 ?_
    exact e_X6_gone_42 _ _ h3 _ _ _ _ hf
/-! X6_buy AdmiralGuineaModel.buy(IIII)I -/
def f_X6_buy_231 (h : gi_H) (t0 : Nat) (t1 : Int32) (t2 : Int32) : Option (Int32 × gi_H) :=
  (gi_pi h t0 0 t1 t2).bind fun h1 => some (0, h1)
set_option maxRecDepth 20000 in
set_option maxHeartbeats 2000000 in
theorem e_X6_buy_231 (g0 : Option Value) (g1 : Option Value) (g2 : Option Value) (g3 : Option Value) (g4 : Option Value) (g5 : Option Value) (g6 : Option Value) (h : gi_H) (t0 : Nat) (t1 : Int32) (t2 : Int32) (r : (Int32 × gi_H)) (hf : f_X6_buy_231 h t0 t1 t2 = some r) : gi_Ev M_X6_buy 231 [g0, g1, g2, g3, g4, g5, g6] [.int t2, .int t1, .ref t0] h (some (.int r.1), r.2) := by
  unfold f_X6_buy_231 at hf
  obtain ⟨h1, qh1, hf⟩ := gi_bind hf
  refine gi_EvPi rfl qh1 ?_
  refine gi_EvN 1 (pc' := 233) (lv' := [g0, g1, g2, g3, g4, g5, g6]) (st' := [.int 0]) (h' := h1) rfl ?_
  cases hf
  exact gi_EvR rfl rfl
def f_X6_buy (h : gi_H) (x0 : Nat) (x1 : Int32) (x2 : Int32) (x3 : Int32) (x4 : Int32) : Option (Int32 × gi_H) :=
  (gi_fR h x0 6 1).bind fun y1 => (gi_ai h y1 0 12).bind fun y2 => (f_X6_has y2 x2).bind fun y3 => if y3 = 0 then (gi_fR h x0 6 1).bind fun y5 => (gi_ai h y5 0 13).bind fun y6 => if y6 = 12 then some (2, h)
  else (gi_fR h x0 6 1).bind fun y8 => (gi_ai h y8 0 x2).bind fun y9 => (f_X6_priceOf (10 * x3) y9 x4).bind fun y10 => (gi_fR h x0 6 1).bind fun y11 => (gi_ai h y11 0 (6 + x1)).bind fun y12 => if y10 ≤ y12 then (gi_fR h x0 6 1).bind fun y14 => (gi_ai h y14 0 11).bind fun y15 => if ((y15 + x4) - 1) ≤ 99 then (gi_fR h x0 6 1).bind fun y17 => (gi_ai h y17 0 13).bind fun y18 => (gi_fR h x0 6 1).bind fun y19 => (gi_pi h y19 0 (15 + (4 * y18)) x1).bind fun h20 => (gi_fR h20 x0 6 1).bind fun y21 => (gi_pi h20 y21 0 ((15 + (4 * y18)) + 1) x2).bind fun h22 => (gi_fR h22 x0 6 1).bind fun y23 => (gi_pi h22 y23 0 ((15 + (4 * y18)) + 2) (10 * x3)).bind fun h24 => (gi_fR h24 x0 6 1).bind fun y25 => (gi_fR h24 x0 6 1).bind fun y26 => (gi_ai h24 y26 0 11).bind fun y27 => (gi_pi h24 y25 0 ((15 + (4 * y18)) + 3) ((y27 + x4) - 1)).bind fun h28 => (gi_fR h28 x0 6 1).bind fun y29 => (gi_ai h28 y29 0 14).bind fun y30 => (gi_fR h28 x0 6 1).bind fun y31 => (gi_ai h28 y31 0 13).bind fun y32 => (gi_pi h28 y29 0 14 (y30 ||| (1 <<< (y32 &&& 31)))).bind fun h33 => (gi_fR h33 x0 6 1).bind fun y34 => (gi_ai h33 y34 0 13).bind fun y35 => (gi_pi h33 y34 0 13 (y35 + 1)).bind fun h36 => (gi_fR h36 x0 6 1).bind fun y37 => (gi_ai h36 y37 0 (6 + x1)).bind fun y38 => (gi_pi h36 y37 0 (6 + x1) (y38 - y10)).bind fun h39 => (gi_fR h39 x0 6 1).bind fun y40 => (gi_fR h39 x0 6 1).bind fun y41 => (gi_ai h39 y41 0 10).bind fun y42 => if (y42 + y10) ≤ 9999 then (gi_fR h39 x0 6 1).bind fun y44 => (gi_ai h39 y44 0 10).bind fun y45 => f_X6_buy_231 h39 y40 10 (y45 + y10)
  else f_X6_buy_231 h39 y40 10 9999
  else some (7, h)
  else some (3, h)
  else some (1, h)
set_option maxRecDepth 20000 in
set_option maxHeartbeats 2000000 in
theorem e_X6_buy (h : gi_H) (x0 : Nat) (x1 : Int32) (x2 : Int32) (x3 : Int32) (x4 : Int32) (r : (Int32 × gi_H)) (hf : f_X6_buy h x0 x1 x2 x3 x4 = some r) : gi_Ev M_X6_buy 0 [some (.ref x0), some (.int x1), some (.int x2), some (.int x3), some (.int x4), none, none] [] h (some (.int r.1), r.2) := by
  unfold f_X6_buy at hf
  refine gi_EvN 1 (pc' := 1) (lv' := [some (.ref x0), some (.int x1), some (.int x2), some (.int x3), some (.int x4), none, none]) (st' := [.ref x0]) (h' := h) rfl ?_
  obtain ⟨y1, qy1, hf⟩ := gi_bind hf
  refine gi_EvF rfl (gi_fR_inv qy1) ?_
  refine gi_EvN 1 (pc' := 6) (lv' := [some (.ref x0), some (.int x1), some (.int x2), some (.int x3), some (.int x4), none, none]) (st' := [.int 12, .ref y1]) (h' := h) rfl ?_
  obtain ⟨y2, qy2, hf⟩ := gi_bind hf
  refine gi_EvAi rfl qy2 ?_
  refine gi_EvN 1 (pc' := 8) (lv' := [some (.ref x0), some (.int x1), some (.int x2), some (.int x3), some (.int x4), none, none]) (st' := [.int x2, .int y2]) (h' := h) rfl ?_
  obtain ⟨y3, qy3, hf⟩ := gi_bind hf
  refine gi_EvCS rfl rfl rfl rfl rfl (e_X6_has h _ _ _ qy3) ?_
  show gi_Ev M_X6_buy 11 [some (.ref x0), some (.int x1), some (.int x2), some (.int x3), some (.int x4), none, none] [.int y3] h _
  refine gi_Ev_eq rfl (fun c4 => ?_) (fun c4 => ?_)
  · rw [if_pos c4] at hf
    refine gi_EvN 1 (pc' := 17) (lv' := [some (.ref x0), some (.int x1), some (.int x2), some (.int x3), some (.int x4), none, none]) (st' := [.ref x0]) (h' := h) rfl ?_
    obtain ⟨y5, qy5, hf⟩ := gi_bind hf
    refine gi_EvF rfl (gi_fR_inv qy5) ?_
    refine gi_EvN 1 (pc' := 22) (lv' := [some (.ref x0), some (.int x1), some (.int x2), some (.int x3), some (.int x4), none, none]) (st' := [.int 13, .ref y5]) (h' := h) rfl ?_
    obtain ⟨y6, qy6, hf⟩ := gi_bind hf
    refine gi_EvAi rfl qy6 ?_
    refine gi_EvN 1 (pc' := 25) (lv' := [some (.ref x0), some (.int x1), some (.int x2), some (.int x3), some (.int x4), none, none]) (st' := [.int 12, .int y6]) (h' := h) rfl ?_
    refine gi_Ev_ine rfl (fun c7 => ?_) (fun c7 => ?_)
    · rw [if_pos c7] at hf
      refine gi_EvN 1 (pc' := 29) (lv' := [some (.ref x0), some (.int x1), some (.int x2), some (.int x3), some (.int x4), none, none]) (st' := [.int 2]) (h' := h) rfl ?_
      cases hf
      exact gi_EvR rfl rfl
    · rw [if_neg c7] at hf
      refine gi_EvN 4 (pc' := 35) (lv' := [some (.ref x0), some (.int x1), some (.int x2), some (.int x3), some (.int x4), none, none]) (st' := [.ref x0, .int (10 * x3)]) (h' := h) rfl ?_
      obtain ⟨y8, qy8, hf⟩ := gi_bind hf
      refine gi_EvF rfl (gi_fR_inv qy8) ?_
      refine gi_EvN 1 (pc' := 39) (lv' := [some (.ref x0), some (.int x1), some (.int x2), some (.int x3), some (.int x4), none, none]) (st' := [.int x2, .ref y8, .int (10 * x3)]) (h' := h) rfl ?_
      obtain ⟨y9, qy9, hf⟩ := gi_bind hf
      refine gi_EvAi rfl qy9 ?_
      refine gi_EvN 1 (pc' := 42) (lv' := [some (.ref x0), some (.int x1), some (.int x2), some (.int x3), some (.int x4), none, none]) (st' := [.int x4, .int y9, .int (10 * x3)]) (h' := h) rfl ?_
      obtain ⟨y10, qy10, hf⟩ := gi_bind hf
      refine gi_EvCS rfl rfl rfl rfl rfl (e_X6_priceOf h _ _ _ _ qy10) ?_
      show gi_Ev M_X6_buy 45 [some (.ref x0), some (.int x1), some (.int x2), some (.int x3), some (.int x4), none, none] [.int y10] h _
      refine gi_EvN 2 (pc' := 48) (lv' := [some (.ref x0), some (.int x1), some (.int x2), some (.int x3), some (.int x4), some (.int y10), none]) (st' := [.ref x0]) (h' := h) rfl ?_
      obtain ⟨y11, qy11, hf⟩ := gi_bind hf
      refine gi_EvF rfl (gi_fR_inv qy11) ?_
      refine gi_EvN 3 (pc' := 55) (lv' := [some (.ref x0), some (.int x1), some (.int x2), some (.int x3), some (.int x4), some (.int y10), none]) (st' := [.int (6 + x1), .ref y11]) (h' := h) rfl ?_
      obtain ⟨y12, qy12, hf⟩ := gi_bind hf
      refine gi_EvAi rfl qy12 ?_
      refine gi_EvN 1 (pc' := 58) (lv' := [some (.ref x0), some (.int x1), some (.int x2), some (.int x3), some (.int x4), some (.int y10), none]) (st' := [.int y10, .int y12]) (h' := h) rfl ?_
      refine gi_Ev_ige rfl (fun c13 => ?_) (fun c13 => ?_)
      · rw [if_pos c13] at hf
        refine gi_EvN 1 (pc' := 64) (lv' := [some (.ref x0), some (.int x1), some (.int x2), some (.int x3), some (.int x4), some (.int y10), none]) (st' := [.ref x0]) (h' := h) rfl ?_
        obtain ⟨y14, qy14, hf⟩ := gi_bind hf
        refine gi_EvF rfl (gi_fR_inv qy14) ?_
        refine gi_EvN 1 (pc' := 69) (lv' := [some (.ref x0), some (.int x1), some (.int x2), some (.int x3), some (.int x4), some (.int y10), none]) (st' := [.int 11, .ref y14]) (h' := h) rfl ?_
        obtain ⟨y15, qy15, hf⟩ := gi_bind hf
        refine gi_EvAi rfl qy15 ?_
        refine gi_EvN 5 (pc' := 77) (lv' := [some (.ref x0), some (.int x1), some (.int x2), some (.int x3), some (.int x4), some (.int y10), none]) (st' := [.int 99, .int ((y15 + x4) - 1)]) (h' := h) rfl ?_
        refine gi_Ev_ile rfl (fun c16 => ?_) (fun c16 => ?_)
        · rw [if_pos c16] at hf
          refine gi_EvN 3 (pc' := 87) (lv' := [some (.ref x0), some (.int x1), some (.int x2), some (.int x3), some (.int x4), some (.int y10), none]) (st' := [.ref x0, .int 4, .int 15]) (h' := h) rfl ?_
          obtain ⟨y17, qy17, hf⟩ := gi_bind hf
          refine gi_EvF rfl (gi_fR_inv qy17) ?_
          refine gi_EvN 1 (pc' := 92) (lv' := [some (.ref x0), some (.int x1), some (.int x2), some (.int x3), some (.int x4), some (.int y10), none]) (st' := [.int 13, .ref y17, .int 4, .int 15]) (h' := h) rfl ?_
          obtain ⟨y18, qy18, hf⟩ := gi_bind hf
          refine gi_EvAi rfl qy18 ?_
          refine gi_EvN 4 (pc' := 98) (lv' := [some (.ref x0), some (.int x1), some (.int x2), some (.int x3), some (.int x4), some (.int y10), some (.int (15 + (4 * y18)))]) (st' := [.ref x0]) (h' := h) rfl ?_
          obtain ⟨y19, qy19, hf⟩ := gi_bind hf
          refine gi_EvF rfl (gi_fR_inv qy19) ?_
          refine gi_EvN 2 (pc' := 104) (lv' := [some (.ref x0), some (.int x1), some (.int x2), some (.int x3), some (.int x4), some (.int y10), some (.int (15 + (4 * y18)))]) (st' := [.int x1, .int (15 + (4 * y18)), .ref y19]) (h' := h) rfl ?_
          obtain ⟨h20, qh20, hf⟩ := gi_bind hf
          refine gi_EvPi rfl qh20 ?_
          refine gi_EvN 1 (pc' := 106) (lv' := [some (.ref x0), some (.int x1), some (.int x2), some (.int x3), some (.int x4), some (.int y10), some (.int (15 + (4 * y18)))]) (st' := [.ref x0]) (h' := h20) rfl ?_
          obtain ⟨y21, qy21, hf⟩ := gi_bind hf
          refine gi_EvF rfl (gi_fR_inv qy21) ?_
          refine gi_EvN 4 (pc' := 114) (lv' := [some (.ref x0), some (.int x1), some (.int x2), some (.int x3), some (.int x4), some (.int y10), some (.int (15 + (4 * y18)))]) (st' := [.int x2, .int ((15 + (4 * y18)) + 1), .ref y21]) (h' := h20) rfl ?_
          obtain ⟨h22, qh22, hf⟩ := gi_bind hf
          refine gi_EvPi rfl qh22 ?_
          refine gi_EvN 1 (pc' := 116) (lv' := [some (.ref x0), some (.int x1), some (.int x2), some (.int x3), some (.int x4), some (.int y10), some (.int (15 + (4 * y18)))]) (st' := [.ref x0]) (h' := h22) rfl ?_
          obtain ⟨y23, qy23, hf⟩ := gi_bind hf
          refine gi_EvF rfl (gi_fR_inv qy23) ?_
          refine gi_EvN 6 (pc' := 127) (lv' := [some (.ref x0), some (.int x1), some (.int x2), some (.int x3), some (.int x4), some (.int y10), some (.int (15 + (4 * y18)))]) (st' := [.int (10 * x3), .int ((15 + (4 * y18)) + 2), .ref y23]) (h' := h22) rfl ?_
          obtain ⟨h24, qh24, hf⟩ := gi_bind hf
          refine gi_EvPi rfl qh24 ?_
          refine gi_EvN 1 (pc' := 129) (lv' := [some (.ref x0), some (.int x1), some (.int x2), some (.int x3), some (.int x4), some (.int y10), some (.int (15 + (4 * y18)))]) (st' := [.ref x0]) (h' := h24) rfl ?_
          obtain ⟨y25, qy25, hf⟩ := gi_bind hf
          refine gi_EvF rfl (gi_fR_inv qy25) ?_
          refine gi_EvN 4 (pc' := 137) (lv' := [some (.ref x0), some (.int x1), some (.int x2), some (.int x3), some (.int x4), some (.int y10), some (.int (15 + (4 * y18)))]) (st' := [.ref x0, .int ((15 + (4 * y18)) + 3), .ref y25]) (h' := h24) rfl ?_
          obtain ⟨y26, qy26, hf⟩ := gi_bind hf
          refine gi_EvF rfl (gi_fR_inv qy26) ?_
          refine gi_EvN 1 (pc' := 142) (lv' := [some (.ref x0), some (.int x1), some (.int x2), some (.int x3), some (.int x4), some (.int y10), some (.int (15 + (4 * y18)))]) (st' := [.int 11, .ref y26, .int ((15 + (4 * y18)) + 3), .ref y25]) (h' := h24) rfl ?_
          obtain ⟨y27, qy27, hf⟩ := gi_bind hf
          refine gi_EvAi rfl qy27 ?_
          refine gi_EvN 4 (pc' := 148) (lv' := [some (.ref x0), some (.int x1), some (.int x2), some (.int x3), some (.int x4), some (.int y10), some (.int (15 + (4 * y18)))]) (st' := [.int ((y27 + x4) - 1), .int ((15 + (4 * y18)) + 3), .ref y25]) (h' := h24) rfl ?_
          obtain ⟨h28, qh28, hf⟩ := gi_bind hf
          refine gi_EvPi rfl qh28 ?_
          refine gi_EvN 1 (pc' := 150) (lv' := [some (.ref x0), some (.int x1), some (.int x2), some (.int x3), some (.int x4), some (.int y10), some (.int (15 + (4 * y18)))]) (st' := [.ref x0]) (h' := h28) rfl ?_
          obtain ⟨y29, qy29, hf⟩ := gi_bind hf
          refine gi_EvF rfl (gi_fR_inv qy29) ?_
          refine gi_EvN 2 (pc' := 156) (lv' := [some (.ref x0), some (.int x1), some (.int x2), some (.int x3), some (.int x4), some (.int y10), some (.int (15 + (4 * y18)))]) (st' := [.int 14, .ref y29, .int 14, .ref y29]) (h' := h28) rfl ?_
          obtain ⟨y30, qy30, hf⟩ := gi_bind hf
          refine gi_EvAi rfl qy30 ?_
          refine gi_EvN 2 (pc' := 159) (lv' := [some (.ref x0), some (.int x1), some (.int x2), some (.int x3), some (.int x4), some (.int y10), some (.int (15 + (4 * y18)))]) (st' := [.ref x0, .int 1, .int y30, .int 14, .ref y29]) (h' := h28) rfl ?_
          obtain ⟨y31, qy31, hf⟩ := gi_bind hf
          refine gi_EvF rfl (gi_fR_inv qy31) ?_
          refine gi_EvN 1 (pc' := 164) (lv' := [some (.ref x0), some (.int x1), some (.int x2), some (.int x3), some (.int x4), some (.int y10), some (.int (15 + (4 * y18)))]) (st' := [.int 13, .ref y31, .int 1, .int y30, .int 14, .ref y29]) (h' := h28) rfl ?_
          obtain ⟨y32, qy32, hf⟩ := gi_bind hf
          refine gi_EvAi rfl qy32 ?_
          refine gi_EvN 2 (pc' := 167) (lv' := [some (.ref x0), some (.int x1), some (.int x2), some (.int x3), some (.int x4), some (.int y10), some (.int (15 + (4 * y18)))]) (st' := [.int (y30 ||| (1 <<< (y32 &&& 31))), .int 14, .ref y29]) (h' := h28) rfl ?_
          obtain ⟨h33, qh33, hf⟩ := gi_bind hf
          refine gi_EvPi rfl qh33 ?_
          refine gi_EvN 1 (pc' := 169) (lv' := [some (.ref x0), some (.int x1), some (.int x2), some (.int x3), some (.int x4), some (.int y10), some (.int (15 + (4 * y18)))]) (st' := [.ref x0]) (h' := h33) rfl ?_
          obtain ⟨y34, qy34, hf⟩ := gi_bind hf
          refine gi_EvF rfl (gi_fR_inv qy34) ?_
          refine gi_EvN 2 (pc' := 175) (lv' := [some (.ref x0), some (.int x1), some (.int x2), some (.int x3), some (.int x4), some (.int y10), some (.int (15 + (4 * y18)))]) (st' := [.int 13, .ref y34, .int 13, .ref y34]) (h' := h33) rfl ?_
          obtain ⟨y35, qy35, hf⟩ := gi_bind hf
          refine gi_EvAi rfl qy35 ?_
          refine gi_EvN 2 (pc' := 178) (lv' := [some (.ref x0), some (.int x1), some (.int x2), some (.int x3), some (.int x4), some (.int y10), some (.int (15 + (4 * y18)))]) (st' := [.int (y35 + 1), .int 13, .ref y34]) (h' := h33) rfl ?_
          obtain ⟨h36, qh36, hf⟩ := gi_bind hf
          refine gi_EvPi rfl qh36 ?_
          refine gi_EvN 1 (pc' := 180) (lv' := [some (.ref x0), some (.int x1), some (.int x2), some (.int x3), some (.int x4), some (.int y10), some (.int (15 + (4 * y18)))]) (st' := [.ref x0]) (h' := h36) rfl ?_
          obtain ⟨y37, qy37, hf⟩ := gi_bind hf
          refine gi_EvF rfl (gi_fR_inv qy37) ?_
          refine gi_EvN 4 (pc' := 188) (lv' := [some (.ref x0), some (.int x1), some (.int x2), some (.int x3), some (.int x4), some (.int y10), some (.int (15 + (4 * y18)))]) (st' := [.int (6 + x1), .ref y37, .int (6 + x1), .ref y37]) (h' := h36) rfl ?_
          obtain ⟨y38, qy38, hf⟩ := gi_bind hf
          refine gi_EvAi rfl qy38 ?_
          refine gi_EvN 2 (pc' := 192) (lv' := [some (.ref x0), some (.int x1), some (.int x2), some (.int x3), some (.int x4), some (.int y10), some (.int (15 + (4 * y18)))]) (st' := [.int (y38 - y10), .int (6 + x1), .ref y37]) (h' := h36) rfl ?_
          obtain ⟨h39, qh39, hf⟩ := gi_bind hf
          refine gi_EvPi rfl qh39 ?_
          refine gi_EvN 1 (pc' := 194) (lv' := [some (.ref x0), some (.int x1), some (.int x2), some (.int x3), some (.int x4), some (.int y10), some (.int (15 + (4 * y18)))]) (st' := [.ref x0]) (h' := h39) rfl ?_
          obtain ⟨y40, qy40, hf⟩ := gi_bind hf
          refine gi_EvF rfl (gi_fR_inv qy40) ?_
          refine gi_EvN 2 (pc' := 200) (lv' := [some (.ref x0), some (.int x1), some (.int x2), some (.int x3), some (.int x4), some (.int y10), some (.int (15 + (4 * y18)))]) (st' := [.ref x0, .int 10, .ref y40]) (h' := h39) rfl ?_
          obtain ⟨y41, qy41, hf⟩ := gi_bind hf
          refine gi_EvF rfl (gi_fR_inv qy41) ?_
          refine gi_EvN 1 (pc' := 205) (lv' := [some (.ref x0), some (.int x1), some (.int x2), some (.int x3), some (.int x4), some (.int y10), some (.int (15 + (4 * y18)))]) (st' := [.int 10, .ref y41, .int 10, .ref y40]) (h' := h39) rfl ?_
          obtain ⟨y42, qy42, hf⟩ := gi_bind hf
          refine gi_EvAi rfl qy42 ?_
          refine gi_EvN 3 (pc' := 212) (lv' := [some (.ref x0), some (.int x1), some (.int x2), some (.int x3), some (.int x4), some (.int y10), some (.int (15 + (4 * y18)))]) (st' := [.int 9999, .int (y42 + y10), .int 10, .ref y40]) (h' := h39) rfl ?_
          refine gi_Ev_ile rfl (fun c43 => ?_) (fun c43 => ?_)
          · rw [if_pos c43] at hf
            refine gi_EvN 1 (pc' := 222) (lv' := [some (.ref x0), some (.int x1), some (.int x2), some (.int x3), some (.int x4), some (.int y10), some (.int (15 + (4 * y18)))]) (st' := [.ref x0, .int 10, .ref y40]) (h' := h39) rfl ?_
            obtain ⟨y44, qy44, hf⟩ := gi_bind hf
            refine gi_EvF rfl (gi_fR_inv qy44) ?_
            refine gi_EvN 1 (pc' := 227) (lv' := [some (.ref x0), some (.int x1), some (.int x2), some (.int x3), some (.int x4), some (.int y10), some (.int (15 + (4 * y18)))]) (st' := [.int 10, .ref y44, .int 10, .ref y40]) (h' := h39) rfl ?_
            obtain ⟨y45, qy45, hf⟩ := gi_bind hf
            refine gi_EvAi rfl qy45 ?_
            refine gi_EvN 2 (pc' := 231) (lv' := [some (.ref x0), some (.int x1), some (.int x2), some (.int x3), some (.int x4), some (.int y10), some (.int (15 + (4 * y18)))]) (st' := [.int (y45 + y10), .int 10, .ref y40]) (h' := h39) rfl ?_
            exact e_X6_buy_231 _ _ _ _ _ _ _ h39 _ _ _ _ hf
          · rw [if_neg c43] at hf
            refine gi_EvN 2 (pc' := 231) (lv' := [some (.ref x0), some (.int x1), some (.int x2), some (.int x3), some (.int x4), some (.int y10), some (.int (15 + (4 * y18)))]) (st' := [.int 9999, .int 10, .ref y40]) (h' := h39) rfl ?_
            exact e_X6_buy_231 _ _ _ _ _ _ _ h39 _ _ _ _ hf
        · rw [if_neg c16] at hf
          refine gi_EvN 1 (pc' := 82) (lv' := [some (.ref x0), some (.int x1), some (.int x2), some (.int x3), some (.int x4), some (.int y10), none]) (st' := [.int 7]) (h' := h) rfl ?_
          cases hf
          exact gi_EvR rfl rfl
      · rw [if_neg c13] at hf
        refine gi_EvN 1 (pc' := 62) (lv' := [some (.ref x0), some (.int x1), some (.int x2), some (.int x3), some (.int x4), some (.int y10), none]) (st' := [.int 3]) (h' := h) rfl ?_
        cases hf
        exact gi_EvR rfl rfl
  · rw [if_neg c4] at hf
    refine gi_EvN 1 (pc' := 15) (lv' := [some (.ref x0), some (.int x1), some (.int x2), some (.int x3), some (.int x4), none, none]) (st' := [.int 1]) (h' := h) rfl ?_
    cases hf
    exact gi_EvR rfl rfl
/-! X6_gets AdmiralGuineaModel.gets(II)V -/
def f_X6_gets_42 (h : gi_H) (t0 : Nat) (t1 : Int32) (t2 : Int32) : Option gi_H :=
  (gi_pi h t0 0 t1 t2).bind fun h1 => some h1
set_option maxRecDepth 20000 in
set_option maxHeartbeats 2000000 in
theorem e_X6_gets_42 (g0 : Option Value) (g1 : Option Value) (g2 : Option Value) (h : gi_H) (t0 : Nat) (t1 : Int32) (t2 : Int32) (r : gi_H) (hf : f_X6_gets_42 h t0 t1 t2 = some r) : gi_Ev M_X6_gets 42 [g0, g1, g2] [.int t2, .int t1, .ref t0] h (none, r) := by
  unfold f_X6_gets_42 at hf
  obtain ⟨h1, qh1, hf⟩ := gi_bind hf
  refine gi_EvPi rfl qh1 ?_
  cases hf
  exact gi_EvR rfl rfl
def f_X6_gets (h : gi_H) (x0 : Nat) (x1 : Int32) (x2 : Int32) : Option gi_H :=
  (gi_fR h x0 6 1).bind fun y1 => (gi_fR h x0 6 1).bind fun y2 => (gi_ai h y2 0 (6 + x1)).bind fun y3 => if (y3 + x2) ≤ 999 then (gi_fR h x0 6 1).bind fun y5 => (gi_ai h y5 0 (6 + x1)).bind fun y6 => f_X6_gets_42 h y1 (6 + x1) (y6 + x2)
  else f_X6_gets_42 h y1 (6 + x1) 999
set_option maxRecDepth 20000 in
set_option maxHeartbeats 2000000 in
theorem e_X6_gets (h : gi_H) (x0 : Nat) (x1 : Int32) (x2 : Int32) (r : gi_H) (hf : f_X6_gets h x0 x1 x2 = some r) : gi_Ev M_X6_gets 0 [some (.ref x0), some (.int x1), some (.int x2)] [] h (none, r) := by
  unfold f_X6_gets at hf
  refine gi_EvN 1 (pc' := 1) (lv' := [some (.ref x0), some (.int x1), some (.int x2)]) (st' := [.ref x0]) (h' := h) rfl ?_
  obtain ⟨y1, qy1, hf⟩ := gi_bind hf
  refine gi_EvF rfl (gi_fR_inv qy1) ?_
  refine gi_EvN 4 (pc' := 9) (lv' := [some (.ref x0), some (.int x1), some (.int x2)]) (st' := [.ref x0, .int (6 + x1), .ref y1]) (h' := h) rfl ?_
  obtain ⟨y2, qy2, hf⟩ := gi_bind hf
  refine gi_EvF rfl (gi_fR_inv qy2) ?_
  refine gi_EvN 3 (pc' := 16) (lv' := [some (.ref x0), some (.int x1), some (.int x2)]) (st' := [.int (6 + x1), .ref y2, .int (6 + x1), .ref y1]) (h' := h) rfl ?_
  obtain ⟨y3, qy3, hf⟩ := gi_bind hf
  refine gi_EvAi rfl qy3 ?_
  refine gi_EvN 3 (pc' := 22) (lv' := [some (.ref x0), some (.int x1), some (.int x2)]) (st' := [.int 999, .int (y3 + x2), .int (6 + x1), .ref y1]) (h' := h) rfl ?_
  refine gi_Ev_ile rfl (fun c4 => ?_) (fun c4 => ?_)
  · rw [if_pos c4] at hf
    refine gi_EvN 1 (pc' := 32) (lv' := [some (.ref x0), some (.int x1), some (.int x2)]) (st' := [.ref x0, .int (6 + x1), .ref y1]) (h' := h) rfl ?_
    obtain ⟨y5, qy5, hf⟩ := gi_bind hf
    refine gi_EvF rfl (gi_fR_inv qy5) ?_
    refine gi_EvN 3 (pc' := 39) (lv' := [some (.ref x0), some (.int x1), some (.int x2)]) (st' := [.int (6 + x1), .ref y5, .int (6 + x1), .ref y1]) (h' := h) rfl ?_
    obtain ⟨y6, qy6, hf⟩ := gi_bind hf
    refine gi_EvAi rfl qy6 ?_
    refine gi_EvN 2 (pc' := 42) (lv' := [some (.ref x0), some (.int x1), some (.int x2)]) (st' := [.int (y6 + x2), .int (6 + x1), .ref y1]) (h' := h) rfl ?_
    exact e_X6_gets_42 _ _ _ h _ _ _ _ hf
  · rw [if_neg c4] at hf
    refine gi_EvN 2 (pc' := 42) (lv' := [some (.ref x0), some (.int x1), some (.int x2)]) (st' := [.int 999, .int (6 + x1), .ref y1]) (h' := h) rfl ?_
    exact e_X6_gets_42 _ _ _ h _ _ _ _ hf
