/-! THE LAW'S TURNS: each call answers alike -/
abbrev scr (L : Nat) (xs : Nat → Int32) : va_E := .inl (9, L, .inl xs)
theorem lgc_self (x : Int64) : lg_cmp x x = 0 := by
  unfold lg_cmp
  simp
theorem s_an {h : gi_H} {L : Nat} {xs : Nat → Int32} (h0 : h[0]? = some (scr L xs)) : gi_an h 0 9 = some L := by
  unfold gi_an
  rw [h0]
  rfl
theorem s_ai {h : gi_H} {L : Nat} {xs : Nat → Int32} (h0 : h[0]? = some (scr L xs)) {I : Int32} {i : Nat} (e : I = nI i) (hi : i < L) (hL : L ≤ 384) : gi_ai h 0 9 I = some (xs i) := by
  subst e
  unfold gi_ai
  rw [h0]
  simp only
  rw [if_pos ⟨trivial, nI_in hi (by omega)⟩, nI_clamp (by omega)]
theorem s_in {L t : Nat} (hL : L ≤ 384) (ht : 6 * t + 6 ≤ L) : ¬ Int32.ofNat L - 6 < nI (6 * t) := by
  show ¬ nI L - nI 6 < nI (6 * t)
  rw [pk_sub (by omega)]
  intro z
  have := (nI_ltI (by omega) (by omega)).mp z
  omega
theorem s_out {L t : Nat} (hL : L ≤ 384) (ht : ¬ 6 * t + 6 ≤ L) (ht2 : t ≤ 64) : Int32.ofNat L - 6 < nI (6 * t) := by
  show nI L - nI 6 < nI (6 * t)
  by_cases c : 6 ≤ L
  · rw [pk_sub c]
    exact (nI_ltI (by omega) (by omega)).mpr (by omega)
  · have h1 : ∀ L, L < 6 → nI L - nI 6 < 0 := by decide +kernel
    exact Int32.lt_of_lt_of_le (h1 L (by omega)) ((nI_leI (a := 0) (by decide) (by omega)).mpr (Nat.zero_le _))
theorem s_op (x : Int32) : ∃ k, k < 32 ∧ x &&& 31 = nI k := by
  refine ⟨(x &&& 31).toBitVec.toNat, ?_, ?_⟩
  · rw [Int32.toBitVec_and, BitVec.toNat_and]
    exact Nat.lt_of_le_of_lt Nat.and_le_right (by decide)
  · apply Int32.toBitVec_inj.1
    show _ = BitVec.ofNat 32 _
    rw [BitVec.ofNat_toNat, BitVec.setWidth_eq]
section LAW
variable {h : gi_H} {L t n : Nat} {xs : Nat → Int32}
theorem s_rd (hL : L ≤ 384) (ht : 6 * t + 6 ≤ L) (h : gi_H) (h0 : h[0]? = some (scr L xs)) : gi_ai h 0 9 (nI (6 * t) + 1) = some (xs (6 * t + 1)) ∧ gi_ai h 0 9 (nI (6 * t) + 2) = some (xs (6 * t + 2)) ∧ gi_ai h 0 9 (nI (6 * t) + 3) = some (xs (6 * t + 3)) ∧ gi_ai h 0 9 (nI (6 * t) + 4) = some (xs (6 * t + 4)) ∧ gi_ai h 0 9 (nI (6 * t) + 5) = some (xs (6 * t + 5)) :=
  ⟨s_ai h0 (nI_add (6 * t) 1) (by omega) hL, s_ai h0 (nI_add (6 * t) 2) (by omega) hL, s_ai h0 (nI_add (6 * t) 3) (by omega) hL, s_ai h0 (nI_add (6 * t) 4) (by omega) hL, s_ai h0 (nI_add (6 * t) 5) (by omega) hL⟩
theorem SS.c0 {c0 : va_E} (S : SS h c0) : h[0]? = some c0 := by
  obtain ⟨N, ns, sg, np, P, im, IM, K, S⟩ := S
  exact K.c0
set_option maxHeartbeats 4000000 in
theorem law_0 (hL : L ≤ 384) (ht : 6 * t + 6 ≤ L) (Q : SS h (scr L xs)) (ho : xs (6 * t) &&& 31 = nI 0) : ∃ h', f_L_law_18 (n + 1) h 0 1 31 (nI (6 * t)) = f_L_law_18 n h' 0 1 31 (nI (6 * t) + 6) ∧ SS h' (scr L xs) := by
  have z0 := Q.c0
  obtain ⟨a1, a2, a3, a4, a5⟩ := s_rd hL ht h z0
  obtain ⟨N, ns, sg, np, P, im, IM, K, S⟩ := id Q
  obtain ⟨-, -, -, -, -, ⟨a, b, c, d, e, u, G⟩, -⟩ := id S
  obtain ⟨v, h1, h2, e1, z1, g1, e2, S2⟩ := k_odds K S (xs (6 * t + 1)) (xs (6 * t + 2))
  obtain ⟨b1, b2, b3, b4, b5⟩ := s_rd hL ht h1 z1
  refine ⟨h2, ?_, S2⟩
  rw [f_L_law_18, s_an z0, Option.bind_some, if_neg (s_in hL ht), s_ai z0 rfl (show 6 * t < L by omega) hL, Option.bind_some, ho, if_pos (by decide), a1, Option.bind_some, a2, Option.bind_some, if_pos (go_is K.cls), show f_X5_odds h 1 (xs (6 * t + 1)) (xs (6 * t + 2)) = some (v, h1) from e1, Option.bind_some]
  show ((gi_ai h1 0 9 (nI (6 * t) + 1)).bind fun y1 => (gi_ai h1 0 9 (nI (6 * t) + 2)).bind fun y2 => if gi_is h1 31 6 = true then (f_X6_odds h1 31 y1 y2).bind fun y => if v = y.1 then f_L_law_18 n y.2 0 1 31 (nI (6 * t) + 6) else some (0, y.2) else none) = _
  rw [b1, Option.bind_some, b2, Option.bind_some, if_pos g1, show f_X6_odds h1 31 (xs (6 * t + 1)) (xs (6 * t + 2)) = some (v, h2) from e2, Option.bind_some]
  exact if_pos rfl
set_option maxHeartbeats 4000000 in
theorem law_1 (hL : L ≤ 384) (ht : 6 * t + 6 ≤ L) (Q : SS h (scr L xs)) (ho : xs (6 * t) &&& 31 = nI 1) : ∃ h', f_L_law_18 (n + 1) h 0 1 31 (nI (6 * t)) = f_L_law_18 n h' 0 1 31 (nI (6 * t) + 6) ∧ SS h' (scr L xs) := by
  have z0 := Q.c0
  obtain ⟨a1, a2, a3, a4, a5⟩ := s_rd hL ht h z0
  obtain ⟨N, ns, sg, np, P, im, IM, K, S⟩ := id Q
  obtain ⟨-, -, -, -, -, ⟨a, b, c, d, e, u, G⟩, -⟩ := id S
  obtain ⟨v, h1, h2, e1, z1, g1, e2, S2⟩ := k_heir K S (xs (6 * t + 1))
  obtain ⟨b1, b2, b3, b4, b5⟩ := s_rd hL ht h1 z1
  refine ⟨h2, ?_, S2⟩
  rw [f_L_law_18, s_an z0, Option.bind_some, if_neg (s_in hL ht), s_ai z0 rfl (show 6 * t < L by omega) hL, Option.bind_some, ho, if_neg (by decide), if_pos (by decide), a1, Option.bind_some, if_pos (go_is K.cls), show f_X5_heir h 1 (xs (6 * t + 1)) = some (v, h1) from e1, Option.bind_some]
  show ((gi_ai h1 0 9 (nI (6 * t) + 1)).bind fun y1 => if gi_is h1 31 6 = true then (f_X6_heir h1 31 y1).bind fun y => if v = y.1 then f_L_law_18 n y.2 0 1 31 (nI (6 * t) + 6) else some (0, y.2) else none) = _
  rw [b1, Option.bind_some, if_pos g1, show f_X6_heir h1 31 (xs (6 * t + 1)) = some (v, h2) from e2, Option.bind_some]
  exact if_pos rfl
set_option maxHeartbeats 4000000 in
theorem law_2 (hL : L ≤ 384) (ht : 6 * t + 6 ≤ L) (Q : SS h (scr L xs)) (ho : xs (6 * t) &&& 31 = nI 2) : ∃ h', f_L_law_18 (n + 1) h 0 1 31 (nI (6 * t)) = f_L_law_18 n h' 0 1 31 (nI (6 * t) + 6) ∧ SS h' (scr L xs) := by
  have z0 := Q.c0
  obtain ⟨a1, a2, a3, a4, a5⟩ := s_rd hL ht h z0
  obtain ⟨N, ns, sg, np, P, im, IM, K, S⟩ := id Q
  obtain ⟨-, -, -, -, -, ⟨a, b, c, d, e, u, G⟩, -⟩ := id S
  obtain ⟨v, h1, h2, e1, z1, g1, e2, S2⟩ := k_cash K S (xs (6 * t + 1)) (xs (6 * t + 2))
  obtain ⟨b1, b2, b3, b4, b5⟩ := s_rd hL ht h1 z1
  refine ⟨h2, ?_, S2⟩
  rw [f_L_law_18, s_an z0, Option.bind_some, if_neg (s_in hL ht), s_ai z0 rfl (show 6 * t < L by omega) hL, Option.bind_some, ho, if_neg (by decide), if_neg (by decide), if_pos (by decide), a1, Option.bind_some, a2, Option.bind_some, if_pos (go_is K.cls), show f_X5_cash h 1 (xs (6 * t + 1)) (xs (6 * t + 2)) = some (v, h1) from e1, Option.bind_some]
  show ((gi_ai h1 0 9 (nI (6 * t) + 1)).bind fun y1 => (gi_ai h1 0 9 (nI (6 * t) + 2)).bind fun y2 => if gi_is h1 31 6 = true then (f_X6_cash h1 31 y1 y2).bind fun y => if v = y.1 then f_L_law_18 n y.2 0 1 31 (nI (6 * t) + 6) else some (0, y.2) else none) = _
  rw [b1, Option.bind_some, b2, Option.bind_some, if_pos g1, show f_X6_cash h1 31 (xs (6 * t + 1)) (xs (6 * t + 2)) = some (v, h2) from e2, Option.bind_some]
  exact if_pos rfl
set_option maxHeartbeats 4000000 in
theorem law_3 (hL : L ≤ 384) (ht : 6 * t + 6 ≤ L) (Q : SS h (scr L xs)) (ho : xs (6 * t) &&& 31 = nI 3) : ∃ h', f_L_law_18 (n + 1) h 0 1 31 (nI (6 * t)) = f_L_law_18 n h' 0 1 31 (nI (6 * t) + 6) ∧ SS h' (scr L xs) := by
  have z0 := Q.c0
  obtain ⟨a1, a2, a3, a4, a5⟩ := s_rd hL ht h z0
  obtain ⟨N, ns, sg, np, P, im, IM, K, S⟩ := id Q
  obtain ⟨-, -, -, -, -, ⟨a, b, c, d, e, u, G⟩, -⟩ := id S
  obtain ⟨v, h1, h2, e1, z1, g1, e2, S2⟩ := k_funds K S (xs (6 * t + 1))
  obtain ⟨b1, b2, b3, b4, b5⟩ := s_rd hL ht h1 z1
  refine ⟨h2, ?_, S2⟩
  rw [f_L_law_18, s_an z0, Option.bind_some, if_neg (s_in hL ht), s_ai z0 rfl (show 6 * t < L by omega) hL, Option.bind_some, ho, if_neg (by decide), if_neg (by decide), if_neg (by decide), if_pos (by decide), a1, Option.bind_some, if_pos (go_is K.cls), show f_X5_funds h 1 (xs (6 * t + 1)) = some (v, h1) from e1, Option.bind_some]
  show ((gi_ai h1 0 9 (nI (6 * t) + 1)).bind fun y1 => if gi_is h1 31 6 = true then (f_X6_funds h1 31 y1).bind fun y => if v = y.1 then f_L_law_18 n y.2 0 1 31 (nI (6 * t) + 6) else some (0, y.2) else none) = _
  rw [b1, Option.bind_some, if_pos g1, show f_X6_funds h1 31 (xs (6 * t + 1)) = some (v, h2) from e2, Option.bind_some]
  exact if_pos rfl
set_option maxHeartbeats 4000000 in
theorem law_4 (hL : L ≤ 384) (ht : 6 * t + 6 ≤ L) (Q : SS h (scr L xs)) (ho : xs (6 * t) &&& 31 = nI 4) : ∃ h', f_L_law_18 (n + 1) h 0 1 31 (nI (6 * t)) = f_L_law_18 n h' 0 1 31 (nI (6 * t) + 6) ∧ SS h' (scr L xs) := by
  have z0 := Q.c0
  obtain ⟨a1, a2, a3, a4, a5⟩ := s_rd hL ht h z0
  obtain ⟨N, ns, sg, np, P, im, IM, K, S⟩ := id Q
  obtain ⟨-, -, -, -, -, ⟨a, b, c, d, e, u, G⟩, -⟩ := id S
  obtain ⟨v, h1, h2, e1, z1, g1, e2, S2⟩ := k_say K S (xs (6 * t + 1))
  obtain ⟨b1, b2, b3, b4, b5⟩ := s_rd hL ht h1 z1
  refine ⟨h2, ?_, S2⟩
  rw [f_L_law_18, s_an z0, Option.bind_some, if_neg (s_in hL ht), s_ai z0 rfl (show 6 * t < L by omega) hL, Option.bind_some, ho, if_neg (by decide), if_neg (by decide), if_neg (by decide), if_neg (by decide), if_pos (by decide), a1, Option.bind_some, if_pos (go_is K.cls), show f_X5_say h 1 (xs (6 * t + 1)) = some (v, h1) from e1, Option.bind_some]
  show ((gi_ai h1 0 9 (nI (6 * t) + 1)).bind fun y1 => if gi_is h1 31 6 = true then (f_X6_say h1 31 y1).bind fun y => if v = y.1 then f_L_law_18 n y.2 0 1 31 (nI (6 * t) + 6) else some (0, y.2) else none) = _
  rw [b1, Option.bind_some, if_pos g1, show f_X6_say h1 31 (xs (6 * t + 1)) = some (v, h2) from e2, Option.bind_some]
  exact if_pos rfl
set_option maxHeartbeats 4000000 in
theorem law_5 (hL : L ≤ 384) (ht : 6 * t + 6 ≤ L) (Q : SS h (scr L xs)) (ho : xs (6 * t) &&& 31 = nI 5) : ∃ h', f_L_law_18 (n + 1) h 0 1 31 (nI (6 * t)) = f_L_law_18 n h' 0 1 31 (nI (6 * t) + 6) ∧ SS h' (scr L xs) := by
  have z0 := Q.c0
  obtain ⟨a1, a2, a3, a4, a5⟩ := s_rd hL ht h z0
  obtain ⟨N, ns, sg, np, P, im, IM, K, S⟩ := id Q
  obtain ⟨-, -, -, -, -, ⟨a, b, c, d, e, u, G⟩, -⟩ := id S
  obtain ⟨v, h1, h2, e1, z1, g1, e2, S2⟩ := k_wipe K S 
  obtain ⟨b1, b2, b3, b4, b5⟩ := s_rd hL ht h1 z1
  refine ⟨h2, ?_, S2⟩
  rw [f_L_law_18, s_an z0, Option.bind_some, if_neg (s_in hL ht), s_ai z0 rfl (show 6 * t < L by omega) hL, Option.bind_some, ho, if_neg (by decide), if_neg (by decide), if_neg (by decide), if_neg (by decide), if_neg (by decide), if_pos (by decide), if_pos (go_is K.cls), show f_X5_wipe h 1  = some (v, h1) from e1, Option.bind_some]
  show (if gi_is h1 31 6 = true then (f_X6_wipe h1 31 ).bind fun y => if v = y.1 then f_L_law_18 n y.2 0 1 31 (nI (6 * t) + 6) else some (0, y.2) else none) = _
  rw [if_pos g1, show f_X6_wipe h1 31  = some (v, h2) from e2, Option.bind_some]
  exact if_pos rfl
set_option maxHeartbeats 4000000 in
theorem law_6 (hL : L ≤ 384) (ht : 6 * t + 6 ≤ L) (Q : SS h (scr L xs)) (ho : xs (6 * t) &&& 31 = nI 6) : ∃ h', f_L_law_18 (n + 1) h 0 1 31 (nI (6 * t)) = f_L_law_18 n h' 0 1 31 (nI (6 * t) + 6) ∧ SS h' (scr L xs) := by
  have z0 := Q.c0
  obtain ⟨a1, a2, a3, a4, a5⟩ := s_rd hL ht h z0
  obtain ⟨N, ns, sg, np, P, im, IM, K, S⟩ := id Q
  obtain ⟨-, -, -, -, -, ⟨a, b, c, d, e, u, G⟩, -⟩ := id S
  obtain ⟨v, e1, e2⟩ := k_fault K S 
  refine ⟨h, ?_, Q⟩
  rw [f_L_law_18, s_an z0, Option.bind_some, if_neg (s_in hL ht), s_ai z0 rfl (show 6 * t < L by omega) hL, Option.bind_some, ho, if_neg (by decide), if_neg (by decide), if_neg (by decide), if_neg (by decide), if_neg (by decide), if_neg (by decide), if_pos (by decide), if_pos (go_is K.cls), e1, Option.bind_some, if_pos (go_is G), e2, Option.bind_some]
  exact if_pos rfl
set_option maxHeartbeats 4000000 in
theorem law_7 (hL : L ≤ 384) (ht : 6 * t + 6 ≤ L) (Q : SS h (scr L xs)) (ho : xs (6 * t) &&& 31 = nI 7) : ∃ h', f_L_law_18 (n + 1) h 0 1 31 (nI (6 * t)) = f_L_law_18 n h' 0 1 31 (nI (6 * t) + 6) ∧ SS h' (scr L xs) := by
  have z0 := Q.c0
  obtain ⟨a1, a2, a3, a4, a5⟩ := s_rd hL ht h z0
  obtain ⟨N, ns, sg, np, P, im, IM, K, S⟩ := id Q
  obtain ⟨-, -, -, -, -, ⟨a, b, c, d, e, u, G⟩, -⟩ := id S
  obtain ⟨v, h1, h2, e1, z1, g1, e2, S2⟩ := k_judge K S (xs (6 * t + 1))
  obtain ⟨b1, b2, b3, b4, b5⟩ := s_rd hL ht h1 z1
  refine ⟨h2, ?_, S2⟩
  rw [f_L_law_18, s_an z0, Option.bind_some, if_neg (s_in hL ht), s_ai z0 rfl (show 6 * t < L by omega) hL, Option.bind_some, ho, if_neg (by decide), if_neg (by decide), if_neg (by decide), if_neg (by decide), if_neg (by decide), if_neg (by decide), if_neg (by decide), if_pos (by decide), a1, Option.bind_some, if_pos (go_is K.cls), show f_X5_judge h 1 (xs (6 * t + 1)) = some (v, h1) from e1, Option.bind_some]
  show ((gi_ai h1 0 9 (nI (6 * t) + 1)).bind fun y1 => if gi_is h1 31 6 = true then (f_X6_judge h1 31 y1).bind fun y => if v = y.1 then f_L_law_18 n y.2 0 1 31 (nI (6 * t) + 6) else some (0, y.2) else none) = _
  rw [b1, Option.bind_some, if_pos g1, show f_X6_judge h1 31 (xs (6 * t + 1)) = some (v, h2) from e2, Option.bind_some]
  exact if_pos rfl
set_option maxHeartbeats 4000000 in
theorem law_8 (hL : L ≤ 384) (ht : 6 * t + 6 ≤ L) (Q : SS h (scr L xs)) (ho : xs (6 * t) &&& 31 = nI 8) : ∃ h', f_L_law_18 (n + 1) h 0 1 31 (nI (6 * t)) = f_L_law_18 n h' 0 1 31 (nI (6 * t) + 6) ∧ SS h' (scr L xs) := by
  have z0 := Q.c0
  obtain ⟨a1, a2, a3, a4, a5⟩ := s_rd hL ht h z0
  obtain ⟨N, ns, sg, np, P, im, IM, K, S⟩ := id Q
  obtain ⟨-, -, -, -, -, ⟨a, b, c, d, e, u, G⟩, -⟩ := id S
  obtain ⟨v, h1, h2, e1, z1, g1, e2, S2⟩ := k_done K S 
  obtain ⟨b1, b2, b3, b4, b5⟩ := s_rd hL ht h1 z1
  refine ⟨h2, ?_, S2⟩
  rw [f_L_law_18, s_an z0, Option.bind_some, if_neg (s_in hL ht), s_ai z0 rfl (show 6 * t < L by omega) hL, Option.bind_some, ho, if_neg (by decide), if_neg (by decide), if_neg (by decide), if_neg (by decide), if_neg (by decide), if_neg (by decide), if_neg (by decide), if_neg (by decide), if_pos (by decide), if_pos (go_is K.cls), show f_X5_done h 1  = some (v, h1) from e1, Option.bind_some]
  show (if gi_is h1 31 6 = true then (f_X6_done h1 31 ).bind fun y => if v = y.1 then f_L_law_18 n y.2 0 1 31 (nI (6 * t) + 6) else some (0, y.2) else none) = _
  rw [if_pos g1, show f_X6_done h1 31  = some (v, h2) from e2, Option.bind_some]
  exact if_pos rfl
set_option maxHeartbeats 4000000 in
theorem law_9 (hL : L ≤ 384) (ht : 6 * t + 6 ≤ L) (Q : SS h (scr L xs)) (ho : xs (6 * t) &&& 31 = nI 9) : ∃ h', f_L_law_18 (n + 1) h 0 1 31 (nI (6 * t)) = f_L_law_18 n h' 0 1 31 (nI (6 * t) + 6) ∧ SS h' (scr L xs) := by
  have z0 := Q.c0
  obtain ⟨a1, a2, a3, a4, a5⟩ := s_rd hL ht h z0
  obtain ⟨N, ns, sg, np, P, im, IM, K, S⟩ := id Q
  obtain ⟨-, -, -, -, -, ⟨a, b, c, d, e, u, G⟩, -⟩ := id S
  obtain ⟨v, h1, h2, e1, z1, g1, e2, S2⟩ := k_behind K S (xs (6 * t + 1))
  obtain ⟨b1, b2, b3, b4, b5⟩ := s_rd hL ht h1 z1
  refine ⟨h2, ?_, S2⟩
  rw [f_L_law_18, s_an z0, Option.bind_some, if_neg (s_in hL ht), s_ai z0 rfl (show 6 * t < L by omega) hL, Option.bind_some, ho, if_neg (by decide), if_neg (by decide), if_neg (by decide), if_neg (by decide), if_neg (by decide), if_neg (by decide), if_neg (by decide), if_neg (by decide), if_neg (by decide), if_pos (by decide), a1, Option.bind_some, if_pos (go_is K.cls), show f_X5_behind h 1 (xs (6 * t + 1)) = some (v, h1) from e1, Option.bind_some]
  show ((gi_ai h1 0 9 (nI (6 * t) + 1)).bind fun y1 => if gi_is h1 31 6 = true then (f_X6_behind h1 31 y1).bind fun y => if v = y.1 then f_L_law_18 n y.2 0 1 31 (nI (6 * t) + 6) else some (0, y.2) else none) = _
  rw [b1, Option.bind_some, if_pos g1, show f_X6_behind h1 31 (xs (6 * t + 1)) = some (v, h2) from e2, Option.bind_some]
  exact if_pos rfl
set_option maxHeartbeats 4000000 in
theorem law_10 (hL : L ≤ 384) (ht : 6 * t + 6 ≤ L) (Q : SS h (scr L xs)) (ho : xs (6 * t) &&& 31 = nI 10) : ∃ h', f_L_law_18 (n + 1) h 0 1 31 (nI (6 * t)) = f_L_law_18 n h' 0 1 31 (nI (6 * t) + 6) ∧ SS h' (scr L xs) := by
  have z0 := Q.c0
  obtain ⟨a1, a2, a3, a4, a5⟩ := s_rd hL ht h z0
  obtain ⟨N, ns, sg, np, P, im, IM, K, S⟩ := id Q
  obtain ⟨-, -, -, -, -, ⟨a, b, c, d, e, u, G⟩, -⟩ := id S
  obtain ⟨v, e1, e2⟩ := k_policy K S (xs (6 * t + 1)) (xs (6 * t + 2))
  refine ⟨h, ?_, Q⟩
  rw [f_L_law_18, s_an z0, Option.bind_some, if_neg (s_in hL ht), s_ai z0 rfl (show 6 * t < L by omega) hL, Option.bind_some, ho, if_neg (by decide), if_neg (by decide), if_neg (by decide), if_neg (by decide), if_neg (by decide), if_neg (by decide), if_neg (by decide), if_neg (by decide), if_neg (by decide), if_neg (by decide), if_pos (by decide), a1, Option.bind_some, a2, Option.bind_some, if_pos (go_is K.cls), e1, Option.bind_some, Option.bind_some, Option.bind_some, if_pos (go_is G), e2, Option.bind_some]
  exact if_pos rfl
set_option maxHeartbeats 4000000 in
theorem law_11 (hL : L ≤ 384) (ht : 6 * t + 6 ≤ L) (Q : SS h (scr L xs)) (ho : xs (6 * t) &&& 31 = nI 11) : ∃ h', f_L_law_18 (n + 1) h 0 1 31 (nI (6 * t)) = f_L_law_18 n h' 0 1 31 (nI (6 * t) + 6) ∧ SS h' (scr L xs) := by
  have z0 := Q.c0
  obtain ⟨a1, a2, a3, a4, a5⟩ := s_rd hL ht h z0
  obtain ⟨N, ns, sg, np, P, im, IM, K, S⟩ := id Q
  obtain ⟨-, -, -, -, -, ⟨a, b, c, d, e, u, G⟩, -⟩ := id S
  obtain ⟨v, e1, e2⟩ := k_price K S (xs (6 * t + 1)) (xs (6 * t + 2)) (xs (6 * t + 3))
  refine ⟨h, ?_, Q⟩
  rw [f_L_law_18, s_an z0, Option.bind_some, if_neg (s_in hL ht), s_ai z0 rfl (show 6 * t < L by omega) hL, Option.bind_some, ho, if_neg (by decide), if_neg (by decide), if_neg (by decide), if_neg (by decide), if_neg (by decide), if_neg (by decide), if_neg (by decide), if_neg (by decide), if_neg (by decide), if_neg (by decide), if_neg (by decide), if_pos (by decide), a1, Option.bind_some, a2, Option.bind_some, a3, Option.bind_some, if_pos (go_is K.cls), e1, Option.bind_some, Option.bind_some, Option.bind_some, Option.bind_some, if_pos (go_is G), e2, Option.bind_some]
  exact if_pos rfl
set_option maxHeartbeats 4000000 in
theorem law_12 (hL : L ≤ 384) (ht : 6 * t + 6 ≤ L) (Q : SS h (scr L xs)) (ho : xs (6 * t) &&& 31 = nI 12) : ∃ h', f_L_law_18 (n + 1) h 0 1 31 (nI (6 * t)) = f_L_law_18 n h' 0 1 31 (nI (6 * t) + 6) ∧ SS h' (scr L xs) := by
  have z0 := Q.c0
  obtain ⟨a1, a2, a3, a4, a5⟩ := s_rd hL ht h z0
  obtain ⟨N, ns, sg, np, P, im, IM, K, S⟩ := id Q
  obtain ⟨-, -, -, -, -, ⟨a, b, c, d, e, u, G⟩, -⟩ := id S
  obtain ⟨v, e1, e2⟩ := k_chance K S (xs (6 * t + 1)) (xs (6 * t + 2)) (xs (6 * t + 3))
  refine ⟨h, ?_, Q⟩
  rw [f_L_law_18, s_an z0, Option.bind_some, if_neg (s_in hL ht), s_ai z0 rfl (show 6 * t < L by omega) hL, Option.bind_some, ho, if_neg (by decide), if_neg (by decide), if_neg (by decide), if_neg (by decide), if_neg (by decide), if_neg (by decide), if_neg (by decide), if_neg (by decide), if_neg (by decide), if_neg (by decide), if_neg (by decide), if_neg (by decide), if_pos (by decide), a1, Option.bind_some, a2, Option.bind_some, a3, Option.bind_some, if_pos (go_is K.cls), e1, Option.bind_some, Option.bind_some, Option.bind_some, Option.bind_some, if_pos (go_is G), e2, Option.bind_some]
  exact if_pos (lgc_self v)
set_option maxHeartbeats 4000000 in
theorem law_13 (hL : L ≤ 384) (ht : 6 * t + 6 ≤ L) (Q : SS h (scr L xs)) (ho : xs (6 * t) &&& 31 = nI 13) : ∃ h', f_L_law_18 (n + 1) h 0 1 31 (nI (6 * t)) = f_L_law_18 n h' 0 1 31 (nI (6 * t) + 6) ∧ SS h' (scr L xs) := by
  have z0 := Q.c0
  obtain ⟨a1, a2, a3, a4, a5⟩ := s_rd hL ht h z0
  obtain ⟨N, ns, sg, np, P, im, IM, K, S⟩ := id Q
  obtain ⟨-, -, -, -, -, ⟨a, b, c, d, e, u, G⟩, -⟩ := id S
  obtain ⟨v, e1, e2⟩ := k_gains K S (xs (6 * t + 1)) (xs (6 * t + 2))
  refine ⟨h, ?_, Q⟩
  rw [f_L_law_18, s_an z0, Option.bind_some, if_neg (s_in hL ht), s_ai z0 rfl (show 6 * t < L by omega) hL, Option.bind_some, ho, if_neg (by decide), if_neg (by decide), if_neg (by decide), if_neg (by decide), if_neg (by decide), if_neg (by decide), if_neg (by decide), if_neg (by decide), if_neg (by decide), if_neg (by decide), if_neg (by decide), if_neg (by decide), if_neg (by decide), if_pos (by decide), a1, Option.bind_some, a2, Option.bind_some, if_pos (go_is K.cls), e1, Option.bind_some, Option.bind_some, Option.bind_some, if_pos (go_is G), e2, Option.bind_some]
  exact if_pos rfl
set_option maxHeartbeats 4000000 in
theorem law_14 (hL : L ≤ 384) (ht : 6 * t + 6 ≤ L) (Q : SS h (scr L xs)) (ho : xs (6 * t) &&& 31 = nI 14) : ∃ h', f_L_law_18 (n + 1) h 0 1 31 (nI (6 * t)) = f_L_law_18 n h' 0 1 31 (nI (6 * t) + 6) ∧ SS h' (scr L xs) := by
  have z0 := Q.c0
  obtain ⟨a1, a2, a3, a4, a5⟩ := s_rd hL ht h z0
  obtain ⟨N, ns, sg, np, P, im, IM, K, S⟩ := id Q
  obtain ⟨-, -, -, -, -, ⟨a, b, c, d, e, u, G⟩, -⟩ := id S
  obtain ⟨v, e1, e2⟩ := k_worth K S (xs (6 * t + 1))
  refine ⟨h, ?_, Q⟩
  rw [f_L_law_18, s_an z0, Option.bind_some, if_neg (s_in hL ht), s_ai z0 rfl (show 6 * t < L by omega) hL, Option.bind_some, ho, if_neg (by decide), if_neg (by decide), if_neg (by decide), if_neg (by decide), if_neg (by decide), if_neg (by decide), if_neg (by decide), if_neg (by decide), if_neg (by decide), if_neg (by decide), if_neg (by decide), if_neg (by decide), if_neg (by decide), if_neg (by decide), if_pos (by decide), a1, Option.bind_some, if_pos (go_is K.cls), e1, Option.bind_some, Option.bind_some, if_pos (go_is G), e2, Option.bind_some]
  exact if_pos rfl
set_option maxHeartbeats 4000000 in
theorem law_15 (hL : L ≤ 384) (ht : 6 * t + 6 ≤ L) (Q : SS h (scr L xs)) (ho : xs (6 * t) &&& 31 = nI 15) : ∃ h', f_L_law_18 (n + 1) h 0 1 31 (nI (6 * t)) = f_L_law_18 n h' 0 1 31 (nI (6 * t) + 6) ∧ SS h' (scr L xs) := by
  have z0 := Q.c0
  obtain ⟨a1, a2, a3, a4, a5⟩ := s_rd hL ht h z0
  obtain ⟨N, ns, sg, np, P, im, IM, K, S⟩ := id Q
  obtain ⟨-, -, -, -, -, ⟨a, b, c, d, e, u, G⟩, -⟩ := id S
  obtain ⟨v, h1, h2, e1, z1, g1, e2, S2⟩ := k_best K S (xs (6 * t + 1)) (xs (6 * t + 2)) (xs (6 * t + 3)) (xs (6 * t + 4)) (xs (6 * t + 5))
  obtain ⟨b1, b2, b3, b4, b5⟩ := s_rd hL ht h1 z1
  refine ⟨h2, ?_, S2⟩
  rw [f_L_law_18, s_an z0, Option.bind_some, if_neg (s_in hL ht), s_ai z0 rfl (show 6 * t < L by omega) hL, Option.bind_some, ho, if_neg (by decide), if_neg (by decide), if_neg (by decide), if_neg (by decide), if_neg (by decide), if_neg (by decide), if_neg (by decide), if_neg (by decide), if_neg (by decide), if_neg (by decide), if_neg (by decide), if_neg (by decide), if_neg (by decide), if_neg (by decide), if_neg (by decide), if_pos (by decide), a1, Option.bind_some, a2, Option.bind_some, a3, Option.bind_some, a4, Option.bind_some, a5, Option.bind_some, if_pos (go_is K.cls), show f_X5_best h 1 (xs (6 * t + 1)) (xs (6 * t + 2)) (xs (6 * t + 3)) (xs (6 * t + 4)) (xs (6 * t + 5)) = some (v, h1) from e1, Option.bind_some]
  show ((gi_ai h1 0 9 (nI (6 * t) + 1)).bind fun y1 => (gi_ai h1 0 9 (nI (6 * t) + 2)).bind fun y2 => (gi_ai h1 0 9 (nI (6 * t) + 3)).bind fun y3 => (gi_ai h1 0 9 (nI (6 * t) + 4)).bind fun y4 => (gi_ai h1 0 9 (nI (6 * t) + 5)).bind fun y5 => if gi_is h1 31 6 = true then (f_X6_best h1 31 y1 y2 y3 y4 y5).bind fun y => if lg_cmp v y.1 = 0 then f_L_law_18 n y.2 0 1 31 (nI (6 * t) + 6) else some (0, y.2) else none) = _
  rw [b1, Option.bind_some, b2, Option.bind_some, b3, Option.bind_some, b4, Option.bind_some, b5, Option.bind_some, if_pos g1, show f_X6_best h1 31 (xs (6 * t + 1)) (xs (6 * t + 2)) (xs (6 * t + 3)) (xs (6 * t + 4)) (xs (6 * t + 5)) = some (v, h2) from e2, Option.bind_some]
  exact if_pos (lgc_self v)
set_option maxHeartbeats 4000000 in
theorem law_16 (hL : L ≤ 384) (ht : 6 * t + 6 ≤ L) (Q : SS h (scr L xs)) (ho : xs (6 * t) &&& 31 = nI 16) : ∃ h', f_L_law_18 (n + 1) h 0 1 31 (nI (6 * t)) = f_L_law_18 n h' 0 1 31 (nI (6 * t) + 6) ∧ SS h' (scr L xs) := by
  have z0 := Q.c0
  obtain ⟨a1, a2, a3, a4, a5⟩ := s_rd hL ht h z0
  obtain ⟨N, ns, sg, np, P, im, IM, K, S⟩ := id Q
  obtain ⟨-, -, -, -, -, ⟨a, b, c, d, e, u, G⟩, -⟩ := id S
  obtain ⟨v, h1, h2, e1, z1, g1, e2, S2⟩ := k_buys K S (xs (6 * t + 1)) (xs (6 * t + 2)) (xs (6 * t + 3)) (xs (6 * t + 4))
  obtain ⟨b1, b2, b3, b4, b5⟩ := s_rd hL ht h1 z1
  refine ⟨h2, ?_, S2⟩
  rw [f_L_law_18, s_an z0, Option.bind_some, if_neg (s_in hL ht), s_ai z0 rfl (show 6 * t < L by omega) hL, Option.bind_some, ho, if_neg (by decide), if_neg (by decide), if_neg (by decide), if_neg (by decide), if_neg (by decide), if_neg (by decide), if_neg (by decide), if_neg (by decide), if_neg (by decide), if_neg (by decide), if_neg (by decide), if_neg (by decide), if_neg (by decide), if_neg (by decide), if_neg (by decide), if_neg (by decide), if_pos (by decide), a1, Option.bind_some, a2, Option.bind_some, a3, Option.bind_some, a4, Option.bind_some, if_pos (go_is K.cls), show f_X5_buys h 1 (xs (6 * t + 1)) (xs (6 * t + 2)) (xs (6 * t + 3)) (xs (6 * t + 4)) = some (v, h1) from e1, Option.bind_some]
  show ((gi_ai h1 0 9 (nI (6 * t) + 1)).bind fun y1 => (gi_ai h1 0 9 (nI (6 * t) + 2)).bind fun y2 => (gi_ai h1 0 9 (nI (6 * t) + 3)).bind fun y3 => (gi_ai h1 0 9 (nI (6 * t) + 4)).bind fun y4 => if gi_is h1 31 6 = true then (f_X6_buys h1 31 y1 y2 y3 y4).bind fun y => if v = y.1 then f_L_law_18 n y.2 0 1 31 (nI (6 * t) + 6) else some (0, y.2) else none) = _
  rw [b1, Option.bind_some, b2, Option.bind_some, b3, Option.bind_some, b4, Option.bind_some, if_pos g1, show f_X6_buys h1 31 (xs (6 * t + 1)) (xs (6 * t + 2)) (xs (6 * t + 3)) (xs (6 * t + 4)) = some (v, h2) from e2, Option.bind_some]
  exact if_pos rfl
set_option maxHeartbeats 4000000 in
theorem law_17 (hL : L ≤ 384) (ht : 6 * t + 6 ≤ L) (Q : SS h (scr L xs)) (ho : xs (6 * t) &&& 31 = nI 17) : ∃ h', f_L_law_18 (n + 1) h 0 1 31 (nI (6 * t)) = f_L_law_18 n h' 0 1 31 (nI (6 * t) + 6) ∧ SS h' (scr L xs) := by
  have z0 := Q.c0
  obtain ⟨a1, a2, a3, a4, a5⟩ := s_rd hL ht h z0
  obtain ⟨N, ns, sg, np, P, im, IM, K, S⟩ := id Q
  obtain ⟨-, -, -, -, -, ⟨a, b, c, d, e, u, G⟩, -⟩ := id S
  obtain ⟨v, h2, e1, e2, S2⟩ := k_voids K S (xs (6 * t + 1)) (xs (6 * t + 2))
  refine ⟨h2, ?_, S2⟩
  rw [f_L_law_18, s_an z0, Option.bind_some, if_neg (s_in hL ht), s_ai z0 rfl (show 6 * t < L by omega) hL, Option.bind_some, ho, if_neg (by decide), if_neg (by decide), if_neg (by decide), if_neg (by decide), if_neg (by decide), if_neg (by decide), if_neg (by decide), if_neg (by decide), if_neg (by decide), if_neg (by decide), if_neg (by decide), if_neg (by decide), if_neg (by decide), if_neg (by decide), if_neg (by decide), if_neg (by decide), if_neg (by decide), if_pos (by decide), a1, Option.bind_some, a2, Option.bind_some, if_pos (go_is K.cls), e1, Option.bind_some, Option.bind_some, Option.bind_some, if_pos (go_is G), e2, Option.bind_some]
  exact if_pos rfl
set_option maxHeartbeats 4000000 in
theorem law_18 (hL : L ≤ 384) (ht : 6 * t + 6 ≤ L) (Q : SS h (scr L xs)) (ho : xs (6 * t) &&& 31 = nI 18) : ∃ h', f_L_law_18 (n + 1) h 0 1 31 (nI (6 * t)) = f_L_law_18 n h' 0 1 31 (nI (6 * t) + 6) ∧ SS h' (scr L xs) := by
  have z0 := Q.c0
  obtain ⟨a1, a2, a3, a4, a5⟩ := s_rd hL ht h z0
  obtain ⟨N, ns, sg, np, P, im, IM, K, S⟩ := id Q
  obtain ⟨-, -, -, -, -, ⟨a, b, c, d, e, u, G⟩, -⟩ := id S
  obtain ⟨v, e1, e2⟩ := k_ruin K S (xs (6 * t + 1)) (xs (6 * t + 2)) (xs (6 * t + 3))
  refine ⟨h, ?_, Q⟩
  rw [f_L_law_18, s_an z0, Option.bind_some, if_neg (s_in hL ht), s_ai z0 rfl (show 6 * t < L by omega) hL, Option.bind_some, ho, if_neg (by decide), if_neg (by decide), if_neg (by decide), if_neg (by decide), if_neg (by decide), if_neg (by decide), if_neg (by decide), if_neg (by decide), if_neg (by decide), if_neg (by decide), if_neg (by decide), if_neg (by decide), if_neg (by decide), if_neg (by decide), if_neg (by decide), if_neg (by decide), if_neg (by decide), if_neg (by decide), if_pos (by decide), a1, Option.bind_some, a2, Option.bind_some, a3, Option.bind_some, if_pos (go_is K.cls), e1, Option.bind_some, Option.bind_some, Option.bind_some, Option.bind_some, if_pos (go_is G), e2, Option.bind_some]
  exact if_pos (lgc_self v)
set_option maxHeartbeats 4000000 in
theorem law_19 (hL : L ≤ 384) (ht : 6 * t + 6 ≤ L) (Q : SS h (scr L xs)) (ho : xs (6 * t) &&& 31 = nI 19) : ∃ h', f_L_law_18 (n + 1) h 0 1 31 (nI (6 * t)) = f_L_law_18 n h' 0 1 31 (nI (6 * t) + 6) ∧ SS h' (scr L xs) := by
  have z0 := Q.c0
  obtain ⟨a1, a2, a3, a4, a5⟩ := s_rd hL ht h z0
  obtain ⟨N, ns, sg, np, P, im, IM, K, S⟩ := id Q
  obtain ⟨-, -, -, -, -, ⟨a, b, c, d, e, u, G⟩, -⟩ := id S
  obtain ⟨v, e1, e2⟩ := k_tells (xs (6 * t + 1)) (xs (6 * t + 2)) (xs (6 * t + 3))
  refine ⟨h, ?_, Q⟩
  rw [f_L_law_18, s_an z0, Option.bind_some, if_neg (s_in hL ht), s_ai z0 rfl (show 6 * t < L by omega) hL, Option.bind_some, ho, if_neg (by decide), if_neg (by decide), if_neg (by decide), if_neg (by decide), if_neg (by decide), if_neg (by decide), if_neg (by decide), if_neg (by decide), if_neg (by decide), if_neg (by decide), if_neg (by decide), if_neg (by decide), if_neg (by decide), if_neg (by decide), if_neg (by decide), if_neg (by decide), if_neg (by decide), if_neg (by decide), if_neg (by decide), if_pos (by decide), a1, Option.bind_some, a2, Option.bind_some, a3, Option.bind_some, if_pos (go_is K.cls), e1, Option.bind_some, Option.bind_some, Option.bind_some, Option.bind_some, if_pos (go_is G), e2, Option.bind_some]
  exact if_pos rfl
set_option maxHeartbeats 4000000 in
theorem law_20 (hL : L ≤ 384) (ht : 6 * t + 6 ≤ L) (Q : SS h (scr L xs)) (ho : xs (6 * t) &&& 31 = nI 20) : ∃ h', f_L_law_18 (n + 1) h 0 1 31 (nI (6 * t)) = f_L_law_18 n h' 0 1 31 (nI (6 * t) + 6) ∧ SS h' (scr L xs) := by
  have z0 := Q.c0
  obtain ⟨a1, a2, a3, a4, a5⟩ := s_rd hL ht h z0
  obtain ⟨N, ns, sg, np, P, im, IM, K, S⟩ := id Q
  obtain ⟨-, -, -, -, -, ⟨a, b, c, d, e, u, G⟩, -⟩ := id S
  obtain ⟨v, e1, e2⟩ := k_parts 
  refine ⟨h, ?_, Q⟩
  rw [f_L_law_18, s_an z0, Option.bind_some, if_neg (s_in hL ht), s_ai z0 rfl (show 6 * t < L by omega) hL, Option.bind_some, ho, if_neg (by decide), if_neg (by decide), if_neg (by decide), if_neg (by decide), if_neg (by decide), if_neg (by decide), if_neg (by decide), if_neg (by decide), if_neg (by decide), if_neg (by decide), if_neg (by decide), if_neg (by decide), if_neg (by decide), if_neg (by decide), if_neg (by decide), if_neg (by decide), if_neg (by decide), if_neg (by decide), if_neg (by decide), if_neg (by decide), if_pos (by decide), if_pos (go_is K.cls), e1, Option.bind_some, if_pos (go_is G), e2, Option.bind_some]
  exact if_pos rfl
set_option maxHeartbeats 4000000 in
theorem law_21 (hL : L ≤ 384) (ht : 6 * t + 6 ≤ L) (Q : SS h (scr L xs)) (ho : xs (6 * t) &&& 31 = nI 21) : ∃ h', f_L_law_18 (n + 1) h 0 1 31 (nI (6 * t)) = f_L_law_18 n h' 0 1 31 (nI (6 * t) + 6) ∧ SS h' (scr L xs) := by
  have z0 := Q.c0
  obtain ⟨a1, a2, a3, a4, a5⟩ := s_rd hL ht h z0
  obtain ⟨N, ns, sg, np, P, im, IM, K, S⟩ := id Q
  obtain ⟨-, -, -, -, -, ⟨a, b, c, d, e, u, G⟩, -⟩ := id S
  obtain ⟨v, h1, h2, e1, z1, g1, e2, S2⟩ := k_seen K S (xs (6 * t + 1)) (xs (6 * t + 2)) (xs (6 * t + 3))
  obtain ⟨b1, b2, b3, b4, b5⟩ := s_rd hL ht h1 z1
  refine ⟨h2, ?_, S2⟩
  rw [f_L_law_18, s_an z0, Option.bind_some, if_neg (s_in hL ht), s_ai z0 rfl (show 6 * t < L by omega) hL, Option.bind_some, ho, if_neg (by decide), if_neg (by decide), if_neg (by decide), if_neg (by decide), if_neg (by decide), if_neg (by decide), if_neg (by decide), if_neg (by decide), if_neg (by decide), if_neg (by decide), if_neg (by decide), if_neg (by decide), if_neg (by decide), if_neg (by decide), if_neg (by decide), if_neg (by decide), if_neg (by decide), if_neg (by decide), if_neg (by decide), if_neg (by decide), if_neg (by decide), if_pos (by decide), a1, Option.bind_some, a2, Option.bind_some, a3, Option.bind_some, if_pos (go_is K.cls), show f_X5_seen h 1 (xs (6 * t + 1)) (xs (6 * t + 2)) (xs (6 * t + 3)) = some (v, h1) from e1, Option.bind_some]
  show ((gi_ai h1 0 9 (nI (6 * t) + 1)).bind fun y1 => (gi_ai h1 0 9 (nI (6 * t) + 2)).bind fun y2 => (gi_ai h1 0 9 (nI (6 * t) + 3)).bind fun y3 => if gi_is h1 31 6 = true then (f_X6_seen h1 31 y1 y2 y3).bind fun y => if v = y.1 then f_L_law_18 n y.2 0 1 31 (nI (6 * t) + 6) else some (0, y.2) else none) = _
  rw [b1, Option.bind_some, b2, Option.bind_some, b3, Option.bind_some, if_pos g1, show f_X6_seen h1 31 (xs (6 * t + 1)) (xs (6 * t + 2)) (xs (6 * t + 3)) = some (v, h2) from e2, Option.bind_some]
  exact if_pos rfl
set_option maxHeartbeats 4000000 in
theorem law_22 (hL : L ≤ 384) (ht : 6 * t + 6 ≤ L) (Q : SS h (scr L xs)) (ho : xs (6 * t) &&& 31 = nI 22) : ∃ h', f_L_law_18 (n + 1) h 0 1 31 (nI (6 * t)) = f_L_law_18 n h' 0 1 31 (nI (6 * t) + 6) ∧ SS h' (scr L xs) := by
  have z0 := Q.c0
  obtain ⟨a1, a2, a3, a4, a5⟩ := s_rd hL ht h z0
  obtain ⟨N, ns, sg, np, P, im, IM, K, S⟩ := id Q
  obtain ⟨-, -, -, -, -, ⟨a, b, c, d, e, u, G⟩, -⟩ := id S
  obtain ⟨v, h1, h2, e1, z1, g1, e2, S2⟩ := k_forget K S 
  obtain ⟨b1, b2, b3, b4, b5⟩ := s_rd hL ht h1 z1
  refine ⟨h2, ?_, S2⟩
  rw [f_L_law_18, s_an z0, Option.bind_some, if_neg (s_in hL ht), s_ai z0 rfl (show 6 * t < L by omega) hL, Option.bind_some, ho, if_neg (by decide), if_neg (by decide), if_neg (by decide), if_neg (by decide), if_neg (by decide), if_neg (by decide), if_neg (by decide), if_neg (by decide), if_neg (by decide), if_neg (by decide), if_neg (by decide), if_neg (by decide), if_neg (by decide), if_neg (by decide), if_neg (by decide), if_neg (by decide), if_neg (by decide), if_neg (by decide), if_neg (by decide), if_neg (by decide), if_neg (by decide), if_neg (by decide), if_pos (by decide), if_pos (go_is K.cls), show f_X5_forget h 1  = some (v, h1) from e1, Option.bind_some]
  show (if gi_is h1 31 6 = true then (f_X6_forget h1 31 ).bind fun y => if v = y.1 then f_L_law_18 n y.2 0 1 31 (nI (6 * t) + 6) else some (0, y.2) else none) = _
  rw [if_pos g1, show f_X6_forget h1 31  = some (v, h2) from e2, Option.bind_some]
  exact if_pos rfl
set_option maxHeartbeats 4000000 in
theorem law_23 (hL : L ≤ 384) (ht : 6 * t + 6 ≤ L) (Q : SS h (scr L xs)) (ho : xs (6 * t) &&& 31 = nI 23) : ∃ h', f_L_law_18 (n + 1) h 0 1 31 (nI (6 * t)) = f_L_law_18 n h' 0 1 31 (nI (6 * t) + 6) ∧ SS h' (scr L xs) := by
  have z0 := Q.c0
  obtain ⟨a1, a2, a3, a4, a5⟩ := s_rd hL ht h z0
  obtain ⟨N, ns, sg, np, P, im, IM, K, S⟩ := id Q
  obtain ⟨-, -, -, -, -, ⟨a, b, c, d, e, u, G⟩, -⟩ := id S
  obtain ⟨v, e1, e2⟩ := k_liars K S (xs (6 * t + 1))
  refine ⟨h, ?_, Q⟩
  rw [f_L_law_18, s_an z0, Option.bind_some, if_neg (s_in hL ht), s_ai z0 rfl (show 6 * t < L by omega) hL, Option.bind_some, ho, if_neg (by decide), if_neg (by decide), if_neg (by decide), if_neg (by decide), if_neg (by decide), if_neg (by decide), if_neg (by decide), if_neg (by decide), if_neg (by decide), if_neg (by decide), if_neg (by decide), if_neg (by decide), if_neg (by decide), if_neg (by decide), if_neg (by decide), if_neg (by decide), if_neg (by decide), if_neg (by decide), if_neg (by decide), if_neg (by decide), if_neg (by decide), if_neg (by decide), if_neg (by decide), if_pos (by decide), a1, Option.bind_some, if_pos (go_is K.cls), e1, Option.bind_some, Option.bind_some, if_pos (go_is G), e2, Option.bind_some]
  exact if_pos rfl
set_option maxHeartbeats 4000000 in
theorem law_24 (hL : L ≤ 384) (ht : 6 * t + 6 ≤ L) (Q : SS h (scr L xs)) (ho : xs (6 * t) &&& 31 = nI 24) : ∃ h', f_L_law_18 (n + 1) h 0 1 31 (nI (6 * t)) = f_L_law_18 n h' 0 1 31 (nI (6 * t) + 6) ∧ SS h' (scr L xs) := by
  have z0 := Q.c0
  obtain ⟨a1, a2, a3, a4, a5⟩ := s_rd hL ht h z0
  obtain ⟨N, ns, sg, np, P, im, IM, K, S⟩ := id Q
  obtain ⟨-, -, -, -, -, ⟨a, b, c, d, e, u, G⟩, -⟩ := id S
  obtain ⟨v, h1, e1, g1, e2, S2⟩ := k_ask K S (xs (6 * t + 1))
  obtain ⟨b1, b2, b3, b4, b5⟩ := s_rd hL ht h1 S2.c0
  refine ⟨h1, ?_, S2⟩
  rw [f_L_law_18, s_an z0, Option.bind_some, if_neg (s_in hL ht), s_ai z0 rfl (show 6 * t < L by omega) hL, Option.bind_some, ho, if_neg (by decide), if_neg (by decide), if_neg (by decide), if_neg (by decide), if_neg (by decide), if_neg (by decide), if_neg (by decide), if_neg (by decide), if_neg (by decide), if_neg (by decide), if_neg (by decide), if_neg (by decide), if_neg (by decide), if_neg (by decide), if_neg (by decide), if_neg (by decide), if_neg (by decide), if_neg (by decide), if_neg (by decide), if_neg (by decide), if_neg (by decide), if_neg (by decide), if_neg (by decide), if_neg (by decide), if_pos (by decide), a1, Option.bind_some, if_pos (go_is K.cls), show f_X5_ask h 1 (xs (6 * t + 1)) = some (v, h1) from e1, Option.bind_some]
  show ((gi_ai h1 0 9 (nI (6 * t) + 1)).bind fun y1 => if gi_is h1 31 6 = true then (f_X6_ask h1 31 y1).bind fun y => if v = y then f_L_law_18 n h1 0 1 31 (nI (6 * t) + 6) else some (0, h1) else none) = _
  rw [b1, Option.bind_some, if_pos g1, show f_X6_ask h1 31 (xs (6 * t + 1)) = some v from e2, Option.bind_some]
  exact if_pos rfl
set_option maxHeartbeats 4000000 in
theorem law_25 (hL : L ≤ 384) (ht : 6 * t + 6 ≤ L) (Q : SS h (scr L xs)) (ho : xs (6 * t) &&& 31 = nI 25) : ∃ h', f_L_law_18 (n + 1) h 0 1 31 (nI (6 * t)) = f_L_law_18 n h' 0 1 31 (nI (6 * t) + 6) ∧ SS h' (scr L xs) := by
  have z0 := Q.c0
  obtain ⟨a1, a2, a3, a4, a5⟩ := s_rd hL ht h z0
  obtain ⟨N, ns, sg, np, P, im, IM, K, S⟩ := id Q
  obtain ⟨-, -, -, -, -, ⟨a, b, c, d, e, u, G⟩, -⟩ := id S
  obtain ⟨v, h2, e1, e2, S2⟩ := k_pass K S (xs (6 * t + 1))
  refine ⟨h2, ?_, S2⟩
  rw [f_L_law_18, s_an z0, Option.bind_some, if_neg (s_in hL ht), s_ai z0 rfl (show 6 * t < L by omega) hL, Option.bind_some, ho, if_neg (by decide), if_neg (by decide), if_neg (by decide), if_neg (by decide), if_neg (by decide), if_neg (by decide), if_neg (by decide), if_neg (by decide), if_neg (by decide), if_neg (by decide), if_neg (by decide), if_neg (by decide), if_neg (by decide), if_neg (by decide), if_neg (by decide), if_neg (by decide), if_neg (by decide), if_neg (by decide), if_neg (by decide), if_neg (by decide), if_neg (by decide), if_neg (by decide), if_neg (by decide), if_neg (by decide), if_neg (by decide), if_pos (by decide), a1, Option.bind_some, if_pos (go_is K.cls), e1, Option.bind_some, Option.bind_some, if_pos (go_is G), e2, Option.bind_some]
  exact if_pos rfl
set_option maxHeartbeats 4000000 in
theorem law_26 (hL : L ≤ 384) (ht : 6 * t + 6 ≤ L) (Q : SS h (scr L xs)) (ho : xs (6 * t) &&& 31 = nI 26) : ∃ h', f_L_law_18 (n + 1) h 0 1 31 (nI (6 * t)) = f_L_law_18 n h' 0 1 31 (nI (6 * t) + 6) ∧ SS h' (scr L xs) := by
  have z0 := Q.c0
  obtain ⟨a1, a2, a3, a4, a5⟩ := s_rd hL ht h z0
  obtain ⟨N, ns, sg, np, P, im, IM, K, S⟩ := id Q
  obtain ⟨-, -, -, -, -, ⟨a, b, c, d, e, u, G⟩, -⟩ := id S
  obtain ⟨v, e1, e2⟩ := k_bets (xs (6 * t + 1)) (xs (6 * t + 2)) (xs (6 * t + 3)) (xs (6 * t + 4))
  refine ⟨h, ?_, Q⟩
  rw [f_L_law_18, s_an z0, Option.bind_some, if_neg (s_in hL ht), s_ai z0 rfl (show 6 * t < L by omega) hL, Option.bind_some, ho, if_neg (by decide), if_neg (by decide), if_neg (by decide), if_neg (by decide), if_neg (by decide), if_neg (by decide), if_neg (by decide), if_neg (by decide), if_neg (by decide), if_neg (by decide), if_neg (by decide), if_neg (by decide), if_neg (by decide), if_neg (by decide), if_neg (by decide), if_neg (by decide), if_neg (by decide), if_neg (by decide), if_neg (by decide), if_neg (by decide), if_neg (by decide), if_neg (by decide), if_neg (by decide), if_neg (by decide), if_neg (by decide), if_neg (by decide), if_pos (by decide), a1, Option.bind_some, a2, Option.bind_some, a3, Option.bind_some, a4, Option.bind_some, if_pos (go_is K.cls), e1, Option.bind_some, Option.bind_some, Option.bind_some, Option.bind_some, Option.bind_some, if_pos (go_is G), e2, Option.bind_some]
  exact if_pos (lgc_self v)
set_option maxHeartbeats 4000000 in
theorem law_27 (hL : L ≤ 384) (ht : 6 * t + 6 ≤ L) (Q : SS h (scr L xs)) (ho : xs (6 * t) &&& 31 = nI 27) : ∃ h', f_L_law_18 (n + 1) h 0 1 31 (nI (6 * t)) = f_L_law_18 n h' 0 1 31 (nI (6 * t) + 6) ∧ SS h' (scr L xs) := by
  have z0 := Q.c0
  obtain ⟨a1, a2, a3, a4, a5⟩ := s_rd hL ht h z0
  obtain ⟨N, ns, sg, np, P, im, IM, K, S⟩ := id Q
  obtain ⟨-, -, -, -, -, ⟨a, b, c, d, e, u, G⟩, -⟩ := id S
  obtain ⟨v, h1, h2, e1, z1, g1, e2, S2⟩ := k_year K S (xs (6 * t + 1)) (xs (6 * t + 2)) (xs (6 * t + 3))
  obtain ⟨b1, b2, b3, b4, b5⟩ := s_rd hL ht h1 z1
  refine ⟨h2, ?_, S2⟩
  rw [f_L_law_18, s_an z0, Option.bind_some, if_neg (s_in hL ht), s_ai z0 rfl (show 6 * t < L by omega) hL, Option.bind_some, ho, if_neg (by decide), if_neg (by decide), if_neg (by decide), if_neg (by decide), if_neg (by decide), if_neg (by decide), if_neg (by decide), if_neg (by decide), if_neg (by decide), if_neg (by decide), if_neg (by decide), if_neg (by decide), if_neg (by decide), if_neg (by decide), if_neg (by decide), if_neg (by decide), if_neg (by decide), if_neg (by decide), if_neg (by decide), if_neg (by decide), if_neg (by decide), if_neg (by decide), if_neg (by decide), if_neg (by decide), if_neg (by decide), if_neg (by decide), if_neg (by decide), if_pos (by decide), a1, Option.bind_some, a2, Option.bind_some, a3, Option.bind_some, if_pos (go_is K.cls), show f_X5_year h 1 (xs (6 * t + 1)) (xs (6 * t + 2)) (xs (6 * t + 3)) = some (v, h1) from e1, Option.bind_some]
  show ((gi_ai h1 0 9 (nI (6 * t) + 1)).bind fun y1 => (gi_ai h1 0 9 (nI (6 * t) + 2)).bind fun y2 => (gi_ai h1 0 9 (nI (6 * t) + 3)).bind fun y3 => if gi_is h1 31 6 = true then (f_X6_year h1 31 y1 y2 y3).bind fun y => if v = y.1 then f_L_law_18 n y.2 0 1 31 (nI (6 * t) + 6) else some (0, y.2) else none) = _
  rw [b1, Option.bind_some, b2, Option.bind_some, b3, Option.bind_some, if_pos g1, show f_X6_year h1 31 (xs (6 * t + 1)) (xs (6 * t + 2)) (xs (6 * t + 3)) = some (v, h2) from e2, Option.bind_some]
  exact if_pos rfl
set_option maxHeartbeats 4000000 in
theorem law_28 (hL : L ≤ 384) (ht : 6 * t + 6 ≤ L) (Q : SS h (scr L xs)) (ho : xs (6 * t) &&& 31 = nI 28) : ∃ h', f_L_law_18 (n + 1) h 0 1 31 (nI (6 * t)) = f_L_law_18 n h' 0 1 31 (nI (6 * t) + 6) ∧ SS h' (scr L xs) := by
  have z0 := Q.c0
  obtain ⟨a1, a2, a3, a4, a5⟩ := s_rd hL ht h z0
  obtain ⟨N, ns, sg, np, P, im, IM, K, S⟩ := id Q
  obtain ⟨-, -, -, -, -, ⟨a, b, c, d, e, u, G⟩, -⟩ := id S
  obtain ⟨v, h1, h2, e1, z1, g1, e2, S2⟩ := k_image K S (xs (6 * t + 1))
  obtain ⟨b1, b2, b3, b4, b5⟩ := s_rd hL ht h1 z1
  refine ⟨h2, ?_, S2⟩
  rw [f_L_law_18, s_an z0, Option.bind_some, if_neg (s_in hL ht), s_ai z0 rfl (show 6 * t < L by omega) hL, Option.bind_some, ho, if_neg (by decide), if_neg (by decide), if_neg (by decide), if_neg (by decide), if_neg (by decide), if_neg (by decide), if_neg (by decide), if_neg (by decide), if_neg (by decide), if_neg (by decide), if_neg (by decide), if_neg (by decide), if_neg (by decide), if_neg (by decide), if_neg (by decide), if_neg (by decide), if_neg (by decide), if_neg (by decide), if_neg (by decide), if_neg (by decide), if_neg (by decide), if_neg (by decide), if_neg (by decide), if_neg (by decide), if_neg (by decide), if_neg (by decide), if_neg (by decide), if_neg (by decide), if_pos (by decide), a1, Option.bind_some, if_pos (go_is K.cls), show f_X5_image h 1 (xs (6 * t + 1)) = some (v, h1) from e1, Option.bind_some]
  show ((gi_ai h1 0 9 (nI (6 * t) + 1)).bind fun y1 => if gi_is h1 31 6 = true then (f_X6_image h1 31 y1).bind fun y => if v = y.1 then f_L_law_18 n y.2 0 1 31 (nI (6 * t) + 6) else some (0, y.2) else none) = _
  rw [b1, Option.bind_some, if_pos g1, show f_X6_image h1 31 (xs (6 * t + 1)) = some (v, h2) from e2, Option.bind_some]
  exact if_pos rfl
set_option maxHeartbeats 4000000 in
theorem law_29 (hL : L ≤ 384) (ht : 6 * t + 6 ≤ L) (Q : SS h (scr L xs)) (ho : xs (6 * t) &&& 31 = nI 29) : ∃ h', f_L_law_18 (n + 1) h 0 1 31 (nI (6 * t)) = f_L_law_18 n h' 0 1 31 (nI (6 * t) + 6) ∧ SS h' (scr L xs) := by
  have z0 := Q.c0
  obtain ⟨a1, a2, a3, a4, a5⟩ := s_rd hL ht h z0
  obtain ⟨N, ns, sg, np, P, im, IM, K, S⟩ := id Q
  obtain ⟨-, -, -, -, -, ⟨a, b, c, d, e, u, G⟩, -⟩ := id S
  obtain ⟨v, h1, h2, e1, z1, g1, e2, S2⟩ := k_restore K S (xs (6 * t + 1))
  obtain ⟨b1, b2, b3, b4, b5⟩ := s_rd hL ht h1 z1
  refine ⟨h2, ?_, S2⟩
  rw [f_L_law_18, s_an z0, Option.bind_some, if_neg (s_in hL ht), s_ai z0 rfl (show 6 * t < L by omega) hL, Option.bind_some, ho, if_neg (by decide), if_neg (by decide), if_neg (by decide), if_neg (by decide), if_neg (by decide), if_neg (by decide), if_neg (by decide), if_neg (by decide), if_neg (by decide), if_neg (by decide), if_neg (by decide), if_neg (by decide), if_neg (by decide), if_neg (by decide), if_neg (by decide), if_neg (by decide), if_neg (by decide), if_neg (by decide), if_neg (by decide), if_neg (by decide), if_neg (by decide), if_neg (by decide), if_neg (by decide), if_neg (by decide), if_neg (by decide), if_neg (by decide), if_neg (by decide), if_neg (by decide), if_neg (by decide), if_pos (by decide), a1, Option.bind_some, if_pos (go_is K.cls), show f_X5_restore h 1 (xs (6 * t + 1)) = some (v, h1) from e1, Option.bind_some]
  show ((gi_ai h1 0 9 (nI (6 * t) + 1)).bind fun y1 => if gi_is h1 31 6 = true then (f_X6_restore h1 31 y1).bind fun y => if v = y.1 then f_L_law_18 n y.2 0 1 31 (nI (6 * t) + 6) else some (0, y.2) else none) = _
  rw [b1, Option.bind_some, if_pos g1, show f_X6_restore h1 31 (xs (6 * t + 1)) = some (v, h2) from e2, Option.bind_some]
  exact if_pos rfl
set_option maxHeartbeats 4000000 in
theorem law_30 (hL : L ≤ 384) (ht : 6 * t + 6 ≤ L) (Q : SS h (scr L xs)) (ho : xs (6 * t) &&& 31 = nI 30) : ∃ h', f_L_law_18 (n + 1) h 0 1 31 (nI (6 * t)) = f_L_law_18 n h' 0 1 31 (nI (6 * t) + 6) ∧ SS h' (scr L xs) := by
  have z0 := Q.c0
  obtain ⟨a1, a2, a3, a4, a5⟩ := s_rd hL ht h z0
  obtain ⟨N, ns, sg, np, P, im, IM, K, S⟩ := id Q
  obtain ⟨-, -, -, -, -, ⟨a, b, c, d, e, u, G⟩, -⟩ := id S
  obtain ⟨v, e1, e2⟩ := k_told K S (xs (6 * t + 1))
  refine ⟨h, ?_, Q⟩
  rw [f_L_law_18, s_an z0, Option.bind_some, if_neg (s_in hL ht), s_ai z0 rfl (show 6 * t < L by omega) hL, Option.bind_some, ho, if_neg (by decide), if_neg (by decide), if_neg (by decide), if_neg (by decide), if_neg (by decide), if_neg (by decide), if_neg (by decide), if_neg (by decide), if_neg (by decide), if_neg (by decide), if_neg (by decide), if_neg (by decide), if_neg (by decide), if_neg (by decide), if_neg (by decide), if_neg (by decide), if_neg (by decide), if_neg (by decide), if_neg (by decide), if_neg (by decide), if_neg (by decide), if_neg (by decide), if_neg (by decide), if_neg (by decide), if_neg (by decide), if_neg (by decide), if_neg (by decide), if_neg (by decide), if_neg (by decide), if_neg (by decide), if_pos (by decide), a1, Option.bind_some, if_pos (go_is K.cls), e1, Option.bind_some, Option.bind_some, if_pos (go_is G), e2, Option.bind_some]
  exact if_pos rfl
set_option maxHeartbeats 4000000 in
theorem law_31 (hL : L ≤ 384) (ht : 6 * t + 6 ≤ L) (Q : SS h (scr L xs)) (ho : xs (6 * t) &&& 31 = nI 31) : ∃ h', f_L_law_18 (n + 1) h 0 1 31 (nI (6 * t)) = f_L_law_18 n h' 0 1 31 (nI (6 * t) + 6) ∧ SS h' (scr L xs) := by
  have z0 := Q.c0
  exact ⟨h, by rw [f_L_law_18, s_an z0, Option.bind_some, if_neg (s_in hL ht), s_ai z0 rfl (show 6 * t < L by omega) hL, Option.bind_some, ho, if_neg (by decide), if_neg (by decide), if_neg (by decide), if_neg (by decide), if_neg (by decide), if_neg (by decide), if_neg (by decide), if_neg (by decide), if_neg (by decide), if_neg (by decide), if_neg (by decide), if_neg (by decide), if_neg (by decide), if_neg (by decide), if_neg (by decide), if_neg (by decide), if_neg (by decide), if_neg (by decide), if_neg (by decide), if_neg (by decide), if_neg (by decide), if_neg (by decide), if_neg (by decide), if_neg (by decide), if_neg (by decide), if_neg (by decide), if_neg (by decide), if_neg (by decide), if_neg (by decide), if_neg (by decide), if_neg (by decide)], Q⟩
theorem law_any (hL : L ≤ 384) (ht : 6 * t + 6 ≤ L) (Q : SS h (scr L xs)) : ∃ h', f_L_law_18 (n + 1) h 0 1 31 (nI (6 * t)) = f_L_law_18 n h' 0 1 31 (nI (6 * t) + 6) ∧ SS h' (scr L xs) := by
  obtain ⟨k, hk, ho⟩ := s_op (xs (6 * t))
  match k, hk, ho with
  | 0, _, ho => exact law_0 hL ht Q ho
  | 1, _, ho => exact law_1 hL ht Q ho
  | 2, _, ho => exact law_2 hL ht Q ho
  | 3, _, ho => exact law_3 hL ht Q ho
  | 4, _, ho => exact law_4 hL ht Q ho
  | 5, _, ho => exact law_5 hL ht Q ho
  | 6, _, ho => exact law_6 hL ht Q ho
  | 7, _, ho => exact law_7 hL ht Q ho
  | 8, _, ho => exact law_8 hL ht Q ho
  | 9, _, ho => exact law_9 hL ht Q ho
  | 10, _, ho => exact law_10 hL ht Q ho
  | 11, _, ho => exact law_11 hL ht Q ho
  | 12, _, ho => exact law_12 hL ht Q ho
  | 13, _, ho => exact law_13 hL ht Q ho
  | 14, _, ho => exact law_14 hL ht Q ho
  | 15, _, ho => exact law_15 hL ht Q ho
  | 16, _, ho => exact law_16 hL ht Q ho
  | 17, _, ho => exact law_17 hL ht Q ho
  | 18, _, ho => exact law_18 hL ht Q ho
  | 19, _, ho => exact law_19 hL ht Q ho
  | 20, _, ho => exact law_20 hL ht Q ho
  | 21, _, ho => exact law_21 hL ht Q ho
  | 22, _, ho => exact law_22 hL ht Q ho
  | 23, _, ho => exact law_23 hL ht Q ho
  | 24, _, ho => exact law_24 hL ht Q ho
  | 25, _, ho => exact law_25 hL ht Q ho
  | 26, _, ho => exact law_26 hL ht Q ho
  | 27, _, ho => exact law_27 hL ht Q ho
  | 28, _, ho => exact law_28 hL ht Q ho
  | 29, _, ho => exact law_29 hL ht Q ho
  | 30, _, ho => exact law_30 hL ht Q ho
  | 31, _, ho => exact law_31 hL ht Q ho
  | k + 32, hk, _ => exact absurd hk (by omega)
theorem law_loop (hL : L ≤ 384) : ∀ n t (h : gi_H), t ≤ 64 → 64 - t < n → SS h (scr L xs) → ∃ h', f_L_law_18 n h 0 1 31 (nI (6 * t)) = some (1, h') ∧ SS h' (scr L xs) := by
  intro n
  induction n with
  | zero => intro t h _ hn; omega
  | succ n ih =>
    intro t h ht hn Q
    by_cases c : 6 * t + 6 ≤ L
    · obtain ⟨h1, e1, Q1⟩ := law_any (n := n) hL c Q
      obtain ⟨h2, e2, Q2⟩ := ih (t + 1) h1 (by omega) (by omega) Q1
      refine ⟨h2, ?_, Q2⟩
      rw [e1, show nI (6 * t) + 6 = nI (6 * (t + 1)) from nI_add (6 * t) 6]
      exact e2
    · refine ⟨h, ?_, Q⟩
      rw [f_L_law_18, s_an Q.c0, Option.bind_some, if_pos (s_out hL c ht)]
end LAW
theorem law_all {L : Nat} (xs : Nat → Int32) (hL : L ≤ 384) (h : gi_H) (hl : h.length = 1) (h0 : h[0]? = some (scr L xs)) : ∃ h', f_L_law h 0 = some (1, h') ∧ SS h' (scr L xs) := by
  obtain ⟨h1, h2, e1, l1, e2, Q⟩ := st_SS h (scr L xs) hl h0
  obtain ⟨h', e, Q'⟩ := law_loop (xs := xs) hL gi_F 0 h2 (by omega) (by decide) Q
  rw [show nI (6 * 0) = (0 : Int32) from rfl] at e
  refine ⟨h', ?_, Q'⟩
  unfold f_L_law gi_new
  rw [Option.bind_some, hl, e1, Option.bind_some, Option.bind_some, l1, e2, Option.bind_some]
  exact e
