def f_L_law_18 : Nat → gi_H → Nat → Nat → Nat → Int32 → Option (Int32 × gi_H)
  | 0, _, _, _, _, _ => none
  | n + 1, h, x0, x1, x2, x3 => (gi_an h x0 9).bind fun y1 => if ((Int32.ofNat y1) - 6) < x3 then some (1, h)
  else (gi_ai h x0 9 x3).bind fun y3 => if (y3 &&& 31) = 0 then (gi_ai h x0 9 (x3 + 1)).bind fun y5 => (gi_ai h x0 9 (x3 + 2)).bind fun y6 => if gi_is h x1 5 = true then (f_X5_odds h x1 y5 y6).bind fun y7 => (gi_ai y7.2 x0 9 (x3 + 1)).bind fun y9 => (gi_ai y7.2 x0 9 (x3 + 2)).bind fun y10 => if gi_is y7.2 x2 6 = true then (f_X6_odds y7.2 x2 y9 y10).bind fun y11 => if y7.1 = y11.1 then f_L_law_18 n y11.2 x0 x1 x2 (x3 + 6)
  else some (0, y11.2) else none else none
  else if (y3 &&& 31) = 1 then (gi_ai h x0 9 (x3 + 1)).bind fun y15 => if gi_is h x1 5 = true then (f_X5_heir h x1 y15).bind fun y16 => (gi_ai y16.2 x0 9 (x3 + 1)).bind fun y18 => if gi_is y16.2 x2 6 = true then (f_X6_heir y16.2 x2 y18).bind fun y19 => if y16.1 = y19.1 then f_L_law_18 n y19.2 x0 x1 x2 (x3 + 6)
  else some (0, y19.2) else none else none
  else if (y3 &&& 31) = 2 then (gi_ai h x0 9 (x3 + 1)).bind fun y23 => (gi_ai h x0 9 (x3 + 2)).bind fun y24 => if gi_is h x1 5 = true then (f_X5_cash h x1 y23 y24).bind fun y25 => (gi_ai y25.2 x0 9 (x3 + 1)).bind fun y27 => (gi_ai y25.2 x0 9 (x3 + 2)).bind fun y28 => if gi_is y25.2 x2 6 = true then (f_X6_cash y25.2 x2 y27 y28).bind fun y29 => if y25.1 = y29.1 then f_L_law_18 n y29.2 x0 x1 x2 (x3 + 6)
  else some (0, y29.2) else none else none
  else if (y3 &&& 31) = 3 then (gi_ai h x0 9 (x3 + 1)).bind fun y33 => if gi_is h x1 5 = true then (f_X5_funds h x1 y33).bind fun y34 => (gi_ai y34.2 x0 9 (x3 + 1)).bind fun y36 => if gi_is y34.2 x2 6 = true then (f_X6_funds y34.2 x2 y36).bind fun y37 => if y34.1 = y37.1 then f_L_law_18 n y37.2 x0 x1 x2 (x3 + 6)
  else some (0, y37.2) else none else none
  else if (y3 &&& 31) = 4 then (gi_ai h x0 9 (x3 + 1)).bind fun y41 => if gi_is h x1 5 = true then (f_X5_say h x1 y41).bind fun y42 => (gi_ai y42.2 x0 9 (x3 + 1)).bind fun y44 => if gi_is y42.2 x2 6 = true then (f_X6_say y42.2 x2 y44).bind fun y45 => if y42.1 = y45.1 then f_L_law_18 n y45.2 x0 x1 x2 (x3 + 6)
  else some (0, y45.2) else none else none
  else if (y3 &&& 31) = 5 then if gi_is h x1 5 = true then (f_X5_wipe h x1).bind fun y49 => if gi_is y49.2 x2 6 = true then (f_X6_wipe y49.2 x2).bind fun y51 => if y49.1 = y51.1 then f_L_law_18 n y51.2 x0 x1 x2 (x3 + 6)
  else some (0, y51.2) else none else none
  else if (y3 &&& 31) = 6 then if gi_is h x1 5 = true then (f_X5_fault h x1).bind fun y55 => if gi_is h x2 6 = true then (f_X6_fault h x2).bind fun y57 => if y55 = y57 then f_L_law_18 n h x0 x1 x2 (x3 + 6)
  else some (0, h) else none else none
  else if (y3 &&& 31) = 7 then (gi_ai h x0 9 (x3 + 1)).bind fun y61 => if gi_is h x1 5 = true then (f_X5_judge h x1 y61).bind fun y62 => (gi_ai y62.2 x0 9 (x3 + 1)).bind fun y64 => if gi_is y62.2 x2 6 = true then (f_X6_judge y62.2 x2 y64).bind fun y65 => if y62.1 = y65.1 then f_L_law_18 n y65.2 x0 x1 x2 (x3 + 6)
  else some (0, y65.2) else none else none
  else if (y3 &&& 31) = 8 then if gi_is h x1 5 = true then (f_X5_done h x1).bind fun y69 => if gi_is y69.2 x2 6 = true then (f_X6_done y69.2 x2).bind fun y71 => if y69.1 = y71.1 then f_L_law_18 n y71.2 x0 x1 x2 (x3 + 6)
  else some (0, y71.2) else none else none
  else if (y3 &&& 31) = 9 then (gi_ai h x0 9 (x3 + 1)).bind fun y75 => if gi_is h x1 5 = true then (f_X5_behind h x1 y75).bind fun y76 => (gi_ai y76.2 x0 9 (x3 + 1)).bind fun y78 => if gi_is y76.2 x2 6 = true then (f_X6_behind y76.2 x2 y78).bind fun y79 => if y76.1 = y79.1 then f_L_law_18 n y79.2 x0 x1 x2 (x3 + 6)
  else some (0, y79.2) else none else none
  else if (y3 &&& 31) = 10 then (gi_ai h x0 9 (x3 + 1)).bind fun y83 => (gi_ai h x0 9 (x3 + 2)).bind fun y84 => if gi_is h x1 5 = true then (f_X5_policy h x1 y83 y84).bind fun y85 => (gi_ai h x0 9 (x3 + 1)).bind fun y87 => (gi_ai h x0 9 (x3 + 2)).bind fun y88 => if gi_is h x2 6 = true then (f_X6_policy h x2 y87 y88).bind fun y89 => if y85 = y89 then f_L_law_18 n h x0 x1 x2 (x3 + 6)
  else some (0, h) else none else none
  else if (y3 &&& 31) = 11 then (gi_ai h x0 9 (x3 + 1)).bind fun y93 => (gi_ai h x0 9 (x3 + 2)).bind fun y94 => (gi_ai h x0 9 (x3 + 3)).bind fun y95 => if gi_is h x1 5 = true then (f_X5_price h x1 y93 y94 y95).bind fun y96 => (gi_ai h x0 9 (x3 + 1)).bind fun y98 => (gi_ai h x0 9 (x3 + 2)).bind fun y99 => (gi_ai h x0 9 (x3 + 3)).bind fun y100 => if gi_is h x2 6 = true then (f_X6_price h x2 y98 y99 y100).bind fun y101 => if y96 = y101 then f_L_law_18 n h x0 x1 x2 (x3 + 6)
  else some (0, h) else none else none
  else if (y3 &&& 31) = 12 then (gi_ai h x0 9 (x3 + 1)).bind fun y105 => (gi_ai h x0 9 (x3 + 2)).bind fun y106 => (gi_ai h x0 9 (x3 + 3)).bind fun y107 => if gi_is h x1 5 = true then (f_X5_chance h x1 y105 y106 y107).bind fun y108 => (gi_ai h x0 9 (x3 + 1)).bind fun y110 => (gi_ai h x0 9 (x3 + 2)).bind fun y111 => (gi_ai h x0 9 (x3 + 3)).bind fun y112 => if gi_is h x2 6 = true then (f_X6_chance h x2 y110 y111 y112).bind fun y113 => if (lg_cmp y108 y113) = 0 then f_L_law_18 n h x0 x1 x2 (x3 + 6)
  else some (0, h) else none else none
  else if (y3 &&& 31) = 13 then (gi_ai h x0 9 (x3 + 1)).bind fun y117 => (gi_ai h x0 9 (x3 + 2)).bind fun y118 => if gi_is h x1 5 = true then (f_X5_gains h x1 y117 y118).bind fun y119 => (gi_ai h x0 9 (x3 + 1)).bind fun y121 => (gi_ai h x0 9 (x3 + 2)).bind fun y122 => if gi_is h x2 6 = true then (f_X6_gains h x2 y121 y122).bind fun y123 => if y119 = y123 then f_L_law_18 n h x0 x1 x2 (x3 + 6)
  else some (0, h) else none else none
  else if (y3 &&& 31) = 14 then (gi_ai h x0 9 (x3 + 1)).bind fun y127 => if gi_is h x1 5 = true then (f_X5_worth h x1 y127).bind fun y128 => (gi_ai h x0 9 (x3 + 1)).bind fun y130 => if gi_is h x2 6 = true then (f_X6_worth h x2 y130).bind fun y131 => if y128 = y131 then f_L_law_18 n h x0 x1 x2 (x3 + 6)
  else some (0, h) else none else none
  else if (y3 &&& 31) = 15 then (gi_ai h x0 9 (x3 + 1)).bind fun y135 => (gi_ai h x0 9 (x3 + 2)).bind fun y136 => (gi_ai h x0 9 (x3 + 3)).bind fun y137 => (gi_ai h x0 9 (x3 + 4)).bind fun y138 => (gi_ai h x0 9 (x3 + 5)).bind fun y139 => if gi_is h x1 5 = true then (f_X5_best h x1 y135 y136 y137 y138 y139).bind fun y140 => (gi_ai y140.2 x0 9 (x3 + 1)).bind fun y142 => (gi_ai y140.2 x0 9 (x3 + 2)).bind fun y143 => (gi_ai y140.2 x0 9 (x3 + 3)).bind fun y144 => (gi_ai y140.2 x0 9 (x3 + 4)).bind fun y145 => (gi_ai y140.2 x0 9 (x3 + 5)).bind fun y146 => if gi_is y140.2 x2 6 = true then (f_X6_best y140.2 x2 y142 y143 y144 y145 y146).bind fun y147 => if (lg_cmp y140.1 y147.1) = 0 then f_L_law_18 n y147.2 x0 x1 x2 (x3 + 6)
  else some (0, y147.2) else none else none
  else if (y3 &&& 31) = 16 then (gi_ai h x0 9 (x3 + 1)).bind fun y151 => (gi_ai h x0 9 (x3 + 2)).bind fun y152 => (gi_ai h x0 9 (x3 + 3)).bind fun y153 => (gi_ai h x0 9 (x3 + 4)).bind fun y154 => if gi_is h x1 5 = true then (f_X5_buys h x1 y151 y152 y153 y154).bind fun y155 => (gi_ai y155.2 x0 9 (x3 + 1)).bind fun y157 => (gi_ai y155.2 x0 9 (x3 + 2)).bind fun y158 => (gi_ai y155.2 x0 9 (x3 + 3)).bind fun y159 => (gi_ai y155.2 x0 9 (x3 + 4)).bind fun y160 => if gi_is y155.2 x2 6 = true then (f_X6_buys y155.2 x2 y157 y158 y159 y160).bind fun y161 => if y155.1 = y161.1 then f_L_law_18 n y161.2 x0 x1 x2 (x3 + 6)
  else some (0, y161.2) else none else none
  else if (y3 &&& 31) = 17 then (gi_ai h x0 9 (x3 + 1)).bind fun y165 => (gi_ai h x0 9 (x3 + 2)).bind fun y166 => if gi_is h x1 5 = true then (f_X5_voids h x1 y165 y166).bind fun y167 => (gi_ai h x0 9 (x3 + 1)).bind fun y169 => (gi_ai h x0 9 (x3 + 2)).bind fun y170 => if gi_is h x2 6 = true then (f_X6_voids h x2 y169 y170).bind fun y171 => if y167 = y171.1 then f_L_law_18 n y171.2 x0 x1 x2 (x3 + 6)
  else some (0, y171.2) else none else none
  else if (y3 &&& 31) = 18 then (gi_ai h x0 9 (x3 + 1)).bind fun y175 => (gi_ai h x0 9 (x3 + 2)).bind fun y176 => (gi_ai h x0 9 (x3 + 3)).bind fun y177 => if gi_is h x1 5 = true then (f_X5_ruin h x1 y175 y176 y177).bind fun y178 => (gi_ai h x0 9 (x3 + 1)).bind fun y180 => (gi_ai h x0 9 (x3 + 2)).bind fun y181 => (gi_ai h x0 9 (x3 + 3)).bind fun y182 => if gi_is h x2 6 = true then (f_X6_ruin h x2 y180 y181 y182).bind fun y183 => if (lg_cmp y178 y183) = 0 then f_L_law_18 n h x0 x1 x2 (x3 + 6)
  else some (0, h) else none else none
  else if (y3 &&& 31) = 19 then (gi_ai h x0 9 (x3 + 1)).bind fun y187 => (gi_ai h x0 9 (x3 + 2)).bind fun y188 => (gi_ai h x0 9 (x3 + 3)).bind fun y189 => if gi_is h x1 5 = true then (f_X5_tells x1 y187 y188 y189).bind fun y190 => (gi_ai h x0 9 (x3 + 1)).bind fun y192 => (gi_ai h x0 9 (x3 + 2)).bind fun y193 => (gi_ai h x0 9 (x3 + 3)).bind fun y194 => if gi_is h x2 6 = true then (f_X6_tells x2 y192 y193 y194).bind fun y195 => if y190 = y195 then f_L_law_18 n h x0 x1 x2 (x3 + 6)
  else some (0, h) else none else none
  else if (y3 &&& 31) = 20 then if gi_is h x1 5 = true then (f_X5_parts x1).bind fun y199 => if gi_is h x2 6 = true then (f_X6_parts x2).bind fun y201 => if y199 = y201 then f_L_law_18 n h x0 x1 x2 (x3 + 6)
  else some (0, h) else none else none
  else if (y3 &&& 31) = 21 then (gi_ai h x0 9 (x3 + 1)).bind fun y205 => (gi_ai h x0 9 (x3 + 2)).bind fun y206 => (gi_ai h x0 9 (x3 + 3)).bind fun y207 => if gi_is h x1 5 = true then (f_X5_seen h x1 y205 y206 y207).bind fun y208 => (gi_ai y208.2 x0 9 (x3 + 1)).bind fun y210 => (gi_ai y208.2 x0 9 (x3 + 2)).bind fun y211 => (gi_ai y208.2 x0 9 (x3 + 3)).bind fun y212 => if gi_is y208.2 x2 6 = true then (f_X6_seen y208.2 x2 y210 y211 y212).bind fun y213 => if y208.1 = y213.1 then f_L_law_18 n y213.2 x0 x1 x2 (x3 + 6)
  else some (0, y213.2) else none else none
  else if (y3 &&& 31) = 22 then if gi_is h x1 5 = true then (f_X5_forget h x1).bind fun y217 => if gi_is y217.2 x2 6 = true then (f_X6_forget y217.2 x2).bind fun y219 => if y217.1 = y219.1 then f_L_law_18 n y219.2 x0 x1 x2 (x3 + 6)
  else some (0, y219.2) else none else none
  else if (y3 &&& 31) = 23 then (gi_ai h x0 9 (x3 + 1)).bind fun y223 => if gi_is h x1 5 = true then (f_X5_liars h x1 y223).bind fun y224 => (gi_ai h x0 9 (x3 + 1)).bind fun y226 => if gi_is h x2 6 = true then (f_X6_liars h x2 y226).bind fun y227 => if y224 = y227 then f_L_law_18 n h x0 x1 x2 (x3 + 6)
  else some (0, h) else none else none
  else if (y3 &&& 31) = 24 then (gi_ai h x0 9 (x3 + 1)).bind fun y231 => if gi_is h x1 5 = true then (f_X5_ask h x1 y231).bind fun y232 => (gi_ai y232.2 x0 9 (x3 + 1)).bind fun y234 => if gi_is y232.2 x2 6 = true then (f_X6_ask y232.2 x2 y234).bind fun y235 => if y232.1 = y235 then f_L_law_18 n y232.2 x0 x1 x2 (x3 + 6)
  else some (0, y232.2) else none else none
  else if (y3 &&& 31) = 25 then (gi_ai h x0 9 (x3 + 1)).bind fun y239 => if gi_is h x1 5 = true then (f_X5_pass h x1 y239).bind fun y240 => (gi_ai h x0 9 (x3 + 1)).bind fun y242 => if gi_is h x2 6 = true then (f_X6_pass h x2 y242).bind fun y243 => if y240 = y243.1 then f_L_law_18 n y243.2 x0 x1 x2 (x3 + 6)
  else some (0, y243.2) else none else none
  else if (y3 &&& 31) = 26 then (gi_ai h x0 9 (x3 + 1)).bind fun y247 => (gi_ai h x0 9 (x3 + 2)).bind fun y248 => (gi_ai h x0 9 (x3 + 3)).bind fun y249 => (gi_ai h x0 9 (x3 + 4)).bind fun y250 => if gi_is h x1 5 = true then (f_X5_bets x1 y247 y248 y249 y250).bind fun y251 => (gi_ai h x0 9 (x3 + 1)).bind fun y253 => (gi_ai h x0 9 (x3 + 2)).bind fun y254 => (gi_ai h x0 9 (x3 + 3)).bind fun y255 => (gi_ai h x0 9 (x3 + 4)).bind fun y256 => if gi_is h x2 6 = true then (f_X6_bets x2 y253 y254 y255 y256).bind fun y257 => if (lg_cmp y251 y257) = 0 then f_L_law_18 n h x0 x1 x2 (x3 + 6)
  else some (0, h) else none else none
  else if (y3 &&& 31) = 27 then (gi_ai h x0 9 (x3 + 1)).bind fun y261 => (gi_ai h x0 9 (x3 + 2)).bind fun y262 => (gi_ai h x0 9 (x3 + 3)).bind fun y263 => if gi_is h x1 5 = true then (f_X5_year h x1 y261 y262 y263).bind fun y264 => (gi_ai y264.2 x0 9 (x3 + 1)).bind fun y266 => (gi_ai y264.2 x0 9 (x3 + 2)).bind fun y267 => (gi_ai y264.2 x0 9 (x3 + 3)).bind fun y268 => if gi_is y264.2 x2 6 = true then (f_X6_year y264.2 x2 y266 y267 y268).bind fun y269 => if y264.1 = y269.1 then f_L_law_18 n y269.2 x0 x1 x2 (x3 + 6)
  else some (0, y269.2) else none else none
  else if (y3 &&& 31) = 28 then (gi_ai h x0 9 (x3 + 1)).bind fun y273 => if gi_is h x1 5 = true then (f_X5_image h x1 y273).bind fun y274 => (gi_ai y274.2 x0 9 (x3 + 1)).bind fun y276 => if gi_is y274.2 x2 6 = true then (f_X6_image y274.2 x2 y276).bind fun y277 => if y274.1 = y277.1 then f_L_law_18 n y277.2 x0 x1 x2 (x3 + 6)
  else some (0, y277.2) else none else none
  else if (y3 &&& 31) = 29 then (gi_ai h x0 9 (x3 + 1)).bind fun y281 => if gi_is h x1 5 = true then (f_X5_restore h x1 y281).bind fun y282 => (gi_ai y282.2 x0 9 (x3 + 1)).bind fun y284 => if gi_is y282.2 x2 6 = true then (f_X6_restore y282.2 x2 y284).bind fun y285 => if y282.1 = y285.1 then f_L_law_18 n y285.2 x0 x1 x2 (x3 + 6)
  else some (0, y285.2) else none else none
  else if (y3 &&& 31) = 30 then (gi_ai h x0 9 (x3 + 1)).bind fun y289 => if gi_is h x1 5 = true then (f_X5_told h x1 y289).bind fun y290 => (gi_ai h x0 9 (x3 + 1)).bind fun y292 => if gi_is h x2 6 = true then (f_X6_told h x2 y292).bind fun y293 => if y290 = y293 then f_L_law_18 n h x0 x1 x2 (x3 + 6)
  else some (0, h) else none else none
  else f_L_law_18 n h x0 x1 x2 (x3 + 6)
set_option maxRecDepth 20000 in
set_option maxHeartbeats 2000000 in
theorem e_L_law_18 : ∀ (n : Nat) (h : gi_H) (x0 : Nat) (x1 : Nat) (x2 : Nat) (x3 : Int32) (r : (Int32 × gi_H)), f_L_law_18 n h x0 x1 x2 x3 = some r → gi_Ev M_L_law 18 [some (.ref x0), some (.ref x1), some (.ref x2), some (.int x3)] [] h (some (.int r.1), r.2) := by
  intro n
  induction n with
  | zero =>
    intro h x0 x1 x2 x3 r hf
    unfold f_L_law_18 at hf
    cases hf
  | succ n ih =>
    intro h x0 x1 x2 x3 r hf
    unfold f_L_law_18 at hf
    refine gi_EvN 2 (pc' := 20) (lv' := [some (.ref x0), some (.ref x1), some (.ref x2), some (.int x3)]) (st' := [.ref x0, .int x3]) (h' := h) rfl ?_
    obtain ⟨y1, qy1, hf⟩ := gi_bind hf
    refine gi_EvAn rfl qy1 ?_
    refine gi_EvN 2 (pc' := 24) (lv' := [some (.ref x0), some (.ref x1), some (.ref x2), some (.int x3)]) (st' := [.int ((Int32.ofNat y1) - 6), .int x3]) (h' := h) rfl ?_
    refine gi_Ev_igt rfl (fun c2 => ?_) (fun c2 => ?_)
    · rw [if_pos c2] at hf
      refine gi_EvN 1 (pc' := 1116) (lv' := [some (.ref x0), some (.ref x1), some (.ref x2), some (.int x3)]) (st' := [.int 1]) (h' := h) rfl ?_
      cases hf
      exact gi_EvR rfl rfl
    · rw [if_neg c2] at hf
      refine gi_EvN 2 (pc' := 29) (lv' := [some (.ref x0), some (.ref x1), some (.ref x2), some (.int x3)]) (st' := [.int x3, .ref x0]) (h' := h) rfl ?_
      obtain ⟨y3, qy3, hf⟩ := gi_bind hf
      refine gi_EvAi rfl qy3 ?_
      refine gi_EvN 2 (pc' := 33) (lv' := [some (.ref x0), some (.ref x1), some (.ref x2), some (.int x3)]) (st' := [.int (y3 &&& 31)]) (h' := h) rfl ?_
      by_cases c4 : (y3 &&& 31) = 0
      · rw [if_pos c4] at hf
        refine gi_EvTs (t := 172) rfl (gi_sw_at c4 (by decide)) ?_
        refine gi_EvN 5 (pc' := 177) (lv' := [some (.ref x0), some (.ref x1), some (.ref x2), some (.int x3)]) (st' := [.int (x3 + 1), .ref x0, .ref x1]) (h' := h) rfl ?_
        obtain ⟨y5, qy5, hf⟩ := gi_bind hf
        refine gi_EvAi rfl qy5 ?_
        refine gi_EvN 4 (pc' := 182) (lv' := [some (.ref x0), some (.ref x1), some (.ref x2), some (.int x3)]) (st' := [.int (x3 + 2), .ref x0, .int y5, .ref x1]) (h' := h) rfl ?_
        obtain ⟨y6, qy6, hf⟩ := gi_bind hf
        refine gi_EvAi rfl qy6 ?_
        by_cases c8 : gi_is h x1 5 = true
        rotate_left
        · rw [if_neg c8] at hf; cases hf
        rw [if_pos c8] at hf
        obtain ⟨y7, qy7, hf⟩ := gi_bind hf
        refine gi_EvCV rfl rfl c8 rfl rfl (e_X5_odds h _ _ _ _ qy7) ?_
        show gi_Ev M_L_law 186 [some (.ref x0), some (.ref x1), some (.ref x2), some (.int x3)] [.int y7.1] y7.2 _
        refine gi_EvN 5 (pc' := 191) (lv' := [some (.ref x0), some (.ref x1), some (.ref x2), some (.int x3)]) (st' := [.int (x3 + 1), .ref x0, .ref x2, .int y7.1]) (h' := y7.2) rfl ?_
        obtain ⟨y9, qy9, hf⟩ := gi_bind hf
        refine gi_EvAi rfl qy9 ?_
        refine gi_EvN 4 (pc' := 196) (lv' := [some (.ref x0), some (.ref x1), some (.ref x2), some (.int x3)]) (st' := [.int (x3 + 2), .ref x0, .int y9, .ref x2, .int y7.1]) (h' := y7.2) rfl ?_
        obtain ⟨y10, qy10, hf⟩ := gi_bind hf
        refine gi_EvAi rfl qy10 ?_
        by_cases c12 : gi_is y7.2 x2 6 = true
        rotate_left
        · rw [if_neg c12] at hf; cases hf
        rw [if_pos c12] at hf
        obtain ⟨y11, qy11, hf⟩ := gi_bind hf
        refine gi_EvCV rfl rfl c12 rfl rfl (e_X6_odds y7.2 _ _ _ _ qy11) ?_
        show gi_Ev M_L_law 200 [some (.ref x0), some (.ref x1), some (.ref x2), some (.int x3)] [.int y11.1, .int y7.1] y11.2 _
        refine gi_Ev_ieq rfl (fun c13 => ?_) (fun c13 => ?_)
        · rw [if_pos c13] at hf
          refine gi_EvN 2 (pc' := 18) (lv' := [some (.ref x0), some (.ref x1), some (.ref x2), some (.int (x3 + 6))]) (st' := []) (h' := y11.2) rfl ?_
          exact ih  _ _  _  _  _ _ hf
        · rw [if_neg c13] at hf
          refine gi_EvN 1 (pc' := 204) (lv' := [some (.ref x0), some (.ref x1), some (.ref x2), some (.int x3)]) (st' := [.int 0]) (h' := y11.2) rfl ?_
          cases hf
          exact gi_EvR rfl rfl
      rw [if_neg c4] at hf
      by_cases c14 : (y3 &&& 31) = 1
      · rw [if_pos c14] at hf
        refine gi_EvTs (t := 205) rfl (gi_sw_at c14 (by decide)) ?_
        refine gi_EvN 5 (pc' := 210) (lv' := [some (.ref x0), some (.ref x1), some (.ref x2), some (.int x3)]) (st' := [.int (x3 + 1), .ref x0, .ref x1]) (h' := h) rfl ?_
        obtain ⟨y15, qy15, hf⟩ := gi_bind hf
        refine gi_EvAi rfl qy15 ?_
        by_cases c17 : gi_is h x1 5 = true
        rotate_left
        · rw [if_neg c17] at hf; cases hf
        rw [if_pos c17] at hf
        obtain ⟨y16, qy16, hf⟩ := gi_bind hf
        refine gi_EvCV rfl rfl c17 rfl rfl (e_X5_heir h _ _ _ qy16) ?_
        show gi_Ev M_L_law 214 [some (.ref x0), some (.ref x1), some (.ref x2), some (.int x3)] [.int y16.1] y16.2 _
        refine gi_EvN 5 (pc' := 219) (lv' := [some (.ref x0), some (.ref x1), some (.ref x2), some (.int x3)]) (st' := [.int (x3 + 1), .ref x0, .ref x2, .int y16.1]) (h' := y16.2) rfl ?_
        obtain ⟨y18, qy18, hf⟩ := gi_bind hf
        refine gi_EvAi rfl qy18 ?_
        by_cases c20 : gi_is y16.2 x2 6 = true
        rotate_left
        · rw [if_neg c20] at hf; cases hf
        rw [if_pos c20] at hf
        obtain ⟨y19, qy19, hf⟩ := gi_bind hf
        refine gi_EvCV rfl rfl c20 rfl rfl (e_X6_heir y16.2 _ _ _ qy19) ?_
        show gi_Ev M_L_law 223 [some (.ref x0), some (.ref x1), some (.ref x2), some (.int x3)] [.int y19.1, .int y16.1] y19.2 _
        refine gi_Ev_ieq rfl (fun c21 => ?_) (fun c21 => ?_)
        · rw [if_pos c21] at hf
          refine gi_EvN 2 (pc' := 18) (lv' := [some (.ref x0), some (.ref x1), some (.ref x2), some (.int (x3 + 6))]) (st' := []) (h' := y19.2) rfl ?_
          exact ih  _ _  _  _  _ _ hf
        · rw [if_neg c21] at hf
          refine gi_EvN 1 (pc' := 227) (lv' := [some (.ref x0), some (.ref x1), some (.ref x2), some (.int x3)]) (st' := [.int 0]) (h' := y19.2) rfl ?_
          cases hf
          exact gi_EvR rfl rfl
      rw [if_neg c14] at hf
      by_cases c22 : (y3 &&& 31) = 2
      · rw [if_pos c22] at hf
        refine gi_EvTs (t := 228) rfl (gi_sw_at c22 (by decide)) ?_
        refine gi_EvN 5 (pc' := 233) (lv' := [some (.ref x0), some (.ref x1), some (.ref x2), some (.int x3)]) (st' := [.int (x3 + 1), .ref x0, .ref x1]) (h' := h) rfl ?_
        obtain ⟨y23, qy23, hf⟩ := gi_bind hf
        refine gi_EvAi rfl qy23 ?_
        refine gi_EvN 4 (pc' := 238) (lv' := [some (.ref x0), some (.ref x1), some (.ref x2), some (.int x3)]) (st' := [.int (x3 + 2), .ref x0, .int y23, .ref x1]) (h' := h) rfl ?_
        obtain ⟨y24, qy24, hf⟩ := gi_bind hf
        refine gi_EvAi rfl qy24 ?_
        by_cases c26 : gi_is h x1 5 = true
        rotate_left
        · rw [if_neg c26] at hf; cases hf
        rw [if_pos c26] at hf
        obtain ⟨y25, qy25, hf⟩ := gi_bind hf
        refine gi_EvCV rfl rfl c26 rfl rfl (e_X5_cash h _ _ _ _ qy25) ?_
        show gi_Ev M_L_law 242 [some (.ref x0), some (.ref x1), some (.ref x2), some (.int x3)] [.int y25.1] y25.2 _
        refine gi_EvN 5 (pc' := 247) (lv' := [some (.ref x0), some (.ref x1), some (.ref x2), some (.int x3)]) (st' := [.int (x3 + 1), .ref x0, .ref x2, .int y25.1]) (h' := y25.2) rfl ?_
        obtain ⟨y27, qy27, hf⟩ := gi_bind hf
        refine gi_EvAi rfl qy27 ?_
        refine gi_EvN 4 (pc' := 252) (lv' := [some (.ref x0), some (.ref x1), some (.ref x2), some (.int x3)]) (st' := [.int (x3 + 2), .ref x0, .int y27, .ref x2, .int y25.1]) (h' := y25.2) rfl ?_
        obtain ⟨y28, qy28, hf⟩ := gi_bind hf
        refine gi_EvAi rfl qy28 ?_
        by_cases c30 : gi_is y25.2 x2 6 = true
        rotate_left
        · rw [if_neg c30] at hf; cases hf
        rw [if_pos c30] at hf
        obtain ⟨y29, qy29, hf⟩ := gi_bind hf
        refine gi_EvCV rfl rfl c30 rfl rfl (e_X6_cash y25.2 _ _ _ _ qy29) ?_
        show gi_Ev M_L_law 256 [some (.ref x0), some (.ref x1), some (.ref x2), some (.int x3)] [.int y29.1, .int y25.1] y29.2 _
        refine gi_Ev_ieq rfl (fun c31 => ?_) (fun c31 => ?_)
        · rw [if_pos c31] at hf
          refine gi_EvN 2 (pc' := 18) (lv' := [some (.ref x0), some (.ref x1), some (.ref x2), some (.int (x3 + 6))]) (st' := []) (h' := y29.2) rfl ?_
          exact ih  _ _  _  _  _ _ hf
        · rw [if_neg c31] at hf
          refine gi_EvN 1 (pc' := 260) (lv' := [some (.ref x0), some (.ref x1), some (.ref x2), some (.int x3)]) (st' := [.int 0]) (h' := y29.2) rfl ?_
          cases hf
          exact gi_EvR rfl rfl
      rw [if_neg c22] at hf
      by_cases c32 : (y3 &&& 31) = 3
      · rw [if_pos c32] at hf
        refine gi_EvTs (t := 261) rfl (gi_sw_at c32 (by decide)) ?_
        refine gi_EvN 5 (pc' := 266) (lv' := [some (.ref x0), some (.ref x1), some (.ref x2), some (.int x3)]) (st' := [.int (x3 + 1), .ref x0, .ref x1]) (h' := h) rfl ?_
        obtain ⟨y33, qy33, hf⟩ := gi_bind hf
        refine gi_EvAi rfl qy33 ?_
        by_cases c35 : gi_is h x1 5 = true
        rotate_left
        · rw [if_neg c35] at hf; cases hf
        rw [if_pos c35] at hf
        obtain ⟨y34, qy34, hf⟩ := gi_bind hf
        refine gi_EvCV rfl rfl c35 rfl rfl (e_X5_funds h _ _ _ qy34) ?_
        show gi_Ev M_L_law 270 [some (.ref x0), some (.ref x1), some (.ref x2), some (.int x3)] [.int y34.1] y34.2 _
        refine gi_EvN 5 (pc' := 275) (lv' := [some (.ref x0), some (.ref x1), some (.ref x2), some (.int x3)]) (st' := [.int (x3 + 1), .ref x0, .ref x2, .int y34.1]) (h' := y34.2) rfl ?_
        obtain ⟨y36, qy36, hf⟩ := gi_bind hf
        refine gi_EvAi rfl qy36 ?_
        by_cases c38 : gi_is y34.2 x2 6 = true
        rotate_left
        · rw [if_neg c38] at hf; cases hf
        rw [if_pos c38] at hf
        obtain ⟨y37, qy37, hf⟩ := gi_bind hf
        refine gi_EvCV rfl rfl c38 rfl rfl (e_X6_funds y34.2 _ _ _ qy37) ?_
        show gi_Ev M_L_law 279 [some (.ref x0), some (.ref x1), some (.ref x2), some (.int x3)] [.int y37.1, .int y34.1] y37.2 _
        refine gi_Ev_ieq rfl (fun c39 => ?_) (fun c39 => ?_)
        · rw [if_pos c39] at hf
          refine gi_EvN 2 (pc' := 18) (lv' := [some (.ref x0), some (.ref x1), some (.ref x2), some (.int (x3 + 6))]) (st' := []) (h' := y37.2) rfl ?_
          exact ih  _ _  _  _  _ _ hf
        · rw [if_neg c39] at hf
          refine gi_EvN 1 (pc' := 283) (lv' := [some (.ref x0), some (.ref x1), some (.ref x2), some (.int x3)]) (st' := [.int 0]) (h' := y37.2) rfl ?_
          cases hf
          exact gi_EvR rfl rfl
      rw [if_neg c32] at hf
      by_cases c40 : (y3 &&& 31) = 4
      · rw [if_pos c40] at hf
        refine gi_EvTs (t := 284) rfl (gi_sw_at c40 (by decide)) ?_
        refine gi_EvN 5 (pc' := 289) (lv' := [some (.ref x0), some (.ref x1), some (.ref x2), some (.int x3)]) (st' := [.int (x3 + 1), .ref x0, .ref x1]) (h' := h) rfl ?_
        obtain ⟨y41, qy41, hf⟩ := gi_bind hf
        refine gi_EvAi rfl qy41 ?_
        by_cases c43 : gi_is h x1 5 = true
        rotate_left
        · rw [if_neg c43] at hf; cases hf
        rw [if_pos c43] at hf
        obtain ⟨y42, qy42, hf⟩ := gi_bind hf
        refine gi_EvCV rfl rfl c43 rfl rfl (e_X5_say h _ _ _ qy42) ?_
        show gi_Ev M_L_law 293 [some (.ref x0), some (.ref x1), some (.ref x2), some (.int x3)] [.int y42.1] y42.2 _
        refine gi_EvN 5 (pc' := 298) (lv' := [some (.ref x0), some (.ref x1), some (.ref x2), some (.int x3)]) (st' := [.int (x3 + 1), .ref x0, .ref x2, .int y42.1]) (h' := y42.2) rfl ?_
        obtain ⟨y44, qy44, hf⟩ := gi_bind hf
        refine gi_EvAi rfl qy44 ?_
        by_cases c46 : gi_is y42.2 x2 6 = true
        rotate_left
        · rw [if_neg c46] at hf; cases hf
        rw [if_pos c46] at hf
        obtain ⟨y45, qy45, hf⟩ := gi_bind hf
        refine gi_EvCV rfl rfl c46 rfl rfl (e_X6_say y42.2 _ _ _ qy45) ?_
        show gi_Ev M_L_law 302 [some (.ref x0), some (.ref x1), some (.ref x2), some (.int x3)] [.int y45.1, .int y42.1] y45.2 _
        refine gi_Ev_ieq rfl (fun c47 => ?_) (fun c47 => ?_)
        · rw [if_pos c47] at hf
          refine gi_EvN 2 (pc' := 18) (lv' := [some (.ref x0), some (.ref x1), some (.ref x2), some (.int (x3 + 6))]) (st' := []) (h' := y45.2) rfl ?_
          exact ih  _ _  _  _  _ _ hf
        · rw [if_neg c47] at hf
          refine gi_EvN 1 (pc' := 306) (lv' := [some (.ref x0), some (.ref x1), some (.ref x2), some (.int x3)]) (st' := [.int 0]) (h' := y45.2) rfl ?_
          cases hf
          exact gi_EvR rfl rfl
      rw [if_neg c40] at hf
      by_cases c48 : (y3 &&& 31) = 5
      · rw [if_pos c48] at hf
        refine gi_EvTs (t := 307) rfl (gi_sw_at c48 (by decide)) ?_
        refine gi_EvN 1 (pc' := 308) (lv' := [some (.ref x0), some (.ref x1), some (.ref x2), some (.int x3)]) (st' := [.ref x1]) (h' := h) rfl ?_
        by_cases c50 : gi_is h x1 5 = true
        rotate_left
        · rw [if_neg c50] at hf; cases hf
        rw [if_pos c50] at hf
        obtain ⟨y49, qy49, hf⟩ := gi_bind hf
        refine gi_EvCV rfl rfl c50 rfl rfl (e_X5_wipe h _ _ qy49) ?_
        show gi_Ev M_L_law 311 [some (.ref x0), some (.ref x1), some (.ref x2), some (.int x3)] [.int y49.1] y49.2 _
        refine gi_EvN 1 (pc' := 312) (lv' := [some (.ref x0), some (.ref x1), some (.ref x2), some (.int x3)]) (st' := [.ref x2, .int y49.1]) (h' := y49.2) rfl ?_
        by_cases c52 : gi_is y49.2 x2 6 = true
        rotate_left
        · rw [if_neg c52] at hf; cases hf
        rw [if_pos c52] at hf
        obtain ⟨y51, qy51, hf⟩ := gi_bind hf
        refine gi_EvCV rfl rfl c52 rfl rfl (e_X6_wipe y49.2 _ _ qy51) ?_
        show gi_Ev M_L_law 315 [some (.ref x0), some (.ref x1), some (.ref x2), some (.int x3)] [.int y51.1, .int y49.1] y51.2 _
        refine gi_Ev_ieq rfl (fun c53 => ?_) (fun c53 => ?_)
        · rw [if_pos c53] at hf
          refine gi_EvN 2 (pc' := 18) (lv' := [some (.ref x0), some (.ref x1), some (.ref x2), some (.int (x3 + 6))]) (st' := []) (h' := y51.2) rfl ?_
          exact ih  _ _  _  _  _ _ hf
        · rw [if_neg c53] at hf
          refine gi_EvN 1 (pc' := 319) (lv' := [some (.ref x0), some (.ref x1), some (.ref x2), some (.int x3)]) (st' := [.int 0]) (h' := y51.2) rfl ?_
          cases hf
          exact gi_EvR rfl rfl
      rw [if_neg c48] at hf
      by_cases c54 : (y3 &&& 31) = 6
      · rw [if_pos c54] at hf
        refine gi_EvTs (t := 320) rfl (gi_sw_at c54 (by decide)) ?_
        refine gi_EvN 1 (pc' := 321) (lv' := [some (.ref x0), some (.ref x1), some (.ref x2), some (.int x3)]) (st' := [.ref x1]) (h' := h) rfl ?_
        by_cases c56 : gi_is h x1 5 = true
        rotate_left
        · rw [if_neg c56] at hf; cases hf
        rw [if_pos c56] at hf
        obtain ⟨y55, qy55, hf⟩ := gi_bind hf
        refine gi_EvCV rfl rfl c56 rfl rfl (e_X5_fault h _ _ qy55) ?_
        show gi_Ev M_L_law 324 [some (.ref x0), some (.ref x1), some (.ref x2), some (.int x3)] [.int y55] h _
        refine gi_EvN 1 (pc' := 325) (lv' := [some (.ref x0), some (.ref x1), some (.ref x2), some (.int x3)]) (st' := [.ref x2, .int y55]) (h' := h) rfl ?_
        by_cases c58 : gi_is h x2 6 = true
        rotate_left
        · rw [if_neg c58] at hf; cases hf
        rw [if_pos c58] at hf
        obtain ⟨y57, qy57, hf⟩ := gi_bind hf
        refine gi_EvCV rfl rfl c58 rfl rfl (e_X6_fault h _ _ qy57) ?_
        show gi_Ev M_L_law 328 [some (.ref x0), some (.ref x1), some (.ref x2), some (.int x3)] [.int y57, .int y55] h _
        refine gi_Ev_ieq rfl (fun c59 => ?_) (fun c59 => ?_)
        · rw [if_pos c59] at hf
          refine gi_EvN 2 (pc' := 18) (lv' := [some (.ref x0), some (.ref x1), some (.ref x2), some (.int (x3 + 6))]) (st' := []) (h' := h) rfl ?_
          exact ih  _ _  _  _  _ _ hf
        · rw [if_neg c59] at hf
          refine gi_EvN 1 (pc' := 332) (lv' := [some (.ref x0), some (.ref x1), some (.ref x2), some (.int x3)]) (st' := [.int 0]) (h' := h) rfl ?_
          cases hf
          exact gi_EvR rfl rfl
      rw [if_neg c54] at hf
      by_cases c60 : (y3 &&& 31) = 7
      · rw [if_pos c60] at hf
        refine gi_EvTs (t := 333) rfl (gi_sw_at c60 (by decide)) ?_
        refine gi_EvN 5 (pc' := 338) (lv' := [some (.ref x0), some (.ref x1), some (.ref x2), some (.int x3)]) (st' := [.int (x3 + 1), .ref x0, .ref x1]) (h' := h) rfl ?_
        obtain ⟨y61, qy61, hf⟩ := gi_bind hf
        refine gi_EvAi rfl qy61 ?_
        by_cases c63 : gi_is h x1 5 = true
        rotate_left
        · rw [if_neg c63] at hf; cases hf
        rw [if_pos c63] at hf
        obtain ⟨y62, qy62, hf⟩ := gi_bind hf
        refine gi_EvCV rfl rfl c63 rfl rfl (e_X5_judge h _ _ _ qy62) ?_
        show gi_Ev M_L_law 342 [some (.ref x0), some (.ref x1), some (.ref x2), some (.int x3)] [.int y62.1] y62.2 _
        refine gi_EvN 5 (pc' := 347) (lv' := [some (.ref x0), some (.ref x1), some (.ref x2), some (.int x3)]) (st' := [.int (x3 + 1), .ref x0, .ref x2, .int y62.1]) (h' := y62.2) rfl ?_
        obtain ⟨y64, qy64, hf⟩ := gi_bind hf
        refine gi_EvAi rfl qy64 ?_
        by_cases c66 : gi_is y62.2 x2 6 = true
        rotate_left
        · rw [if_neg c66] at hf; cases hf
        rw [if_pos c66] at hf
        obtain ⟨y65, qy65, hf⟩ := gi_bind hf
        refine gi_EvCV rfl rfl c66 rfl rfl (e_X6_judge y62.2 _ _ _ qy65) ?_
        show gi_Ev M_L_law 351 [some (.ref x0), some (.ref x1), some (.ref x2), some (.int x3)] [.int y65.1, .int y62.1] y65.2 _
        refine gi_Ev_ieq rfl (fun c67 => ?_) (fun c67 => ?_)
        · rw [if_pos c67] at hf
          refine gi_EvN 2 (pc' := 18) (lv' := [some (.ref x0), some (.ref x1), some (.ref x2), some (.int (x3 + 6))]) (st' := []) (h' := y65.2) rfl ?_
          exact ih  _ _  _  _  _ _ hf
        · rw [if_neg c67] at hf
          refine gi_EvN 1 (pc' := 355) (lv' := [some (.ref x0), some (.ref x1), some (.ref x2), some (.int x3)]) (st' := [.int 0]) (h' := y65.2) rfl ?_
          cases hf
          exact gi_EvR rfl rfl
      rw [if_neg c60] at hf
      by_cases c68 : (y3 &&& 31) = 8
      · rw [if_pos c68] at hf
        refine gi_EvTs (t := 356) rfl (gi_sw_at c68 (by decide)) ?_
        refine gi_EvN 1 (pc' := 357) (lv' := [some (.ref x0), some (.ref x1), some (.ref x2), some (.int x3)]) (st' := [.ref x1]) (h' := h) rfl ?_
        by_cases c70 : gi_is h x1 5 = true
        rotate_left
        · rw [if_neg c70] at hf; cases hf
        rw [if_pos c70] at hf
        obtain ⟨y69, qy69, hf⟩ := gi_bind hf
        refine gi_EvCV rfl rfl c70 rfl rfl (e_X5_done h _ _ qy69) ?_
        show gi_Ev M_L_law 360 [some (.ref x0), some (.ref x1), some (.ref x2), some (.int x3)] [.int y69.1] y69.2 _
        refine gi_EvN 1 (pc' := 361) (lv' := [some (.ref x0), some (.ref x1), some (.ref x2), some (.int x3)]) (st' := [.ref x2, .int y69.1]) (h' := y69.2) rfl ?_
        by_cases c72 : gi_is y69.2 x2 6 = true
        rotate_left
        · rw [if_neg c72] at hf; cases hf
        rw [if_pos c72] at hf
        obtain ⟨y71, qy71, hf⟩ := gi_bind hf
        refine gi_EvCV rfl rfl c72 rfl rfl (e_X6_done y69.2 _ _ qy71) ?_
        show gi_Ev M_L_law 364 [some (.ref x0), some (.ref x1), some (.ref x2), some (.int x3)] [.int y71.1, .int y69.1] y71.2 _
        refine gi_Ev_ieq rfl (fun c73 => ?_) (fun c73 => ?_)
        · rw [if_pos c73] at hf
          refine gi_EvN 2 (pc' := 18) (lv' := [some (.ref x0), some (.ref x1), some (.ref x2), some (.int (x3 + 6))]) (st' := []) (h' := y71.2) rfl ?_
          exact ih  _ _  _  _  _ _ hf
        · rw [if_neg c73] at hf
          refine gi_EvN 1 (pc' := 368) (lv' := [some (.ref x0), some (.ref x1), some (.ref x2), some (.int x3)]) (st' := [.int 0]) (h' := y71.2) rfl ?_
          cases hf
          exact gi_EvR rfl rfl
      rw [if_neg c68] at hf
      by_cases c74 : (y3 &&& 31) = 9
      · rw [if_pos c74] at hf
        refine gi_EvTs (t := 369) rfl (gi_sw_at c74 (by decide)) ?_
        refine gi_EvN 5 (pc' := 374) (lv' := [some (.ref x0), some (.ref x1), some (.ref x2), some (.int x3)]) (st' := [.int (x3 + 1), .ref x0, .ref x1]) (h' := h) rfl ?_
        obtain ⟨y75, qy75, hf⟩ := gi_bind hf
        refine gi_EvAi rfl qy75 ?_
        by_cases c77 : gi_is h x1 5 = true
        rotate_left
        · rw [if_neg c77] at hf; cases hf
        rw [if_pos c77] at hf
        obtain ⟨y76, qy76, hf⟩ := gi_bind hf
        refine gi_EvCV rfl rfl c77 rfl rfl (e_X5_behind h _ _ _ qy76) ?_
        show gi_Ev M_L_law 378 [some (.ref x0), some (.ref x1), some (.ref x2), some (.int x3)] [.int y76.1] y76.2 _
        refine gi_EvN 5 (pc' := 383) (lv' := [some (.ref x0), some (.ref x1), some (.ref x2), some (.int x3)]) (st' := [.int (x3 + 1), .ref x0, .ref x2, .int y76.1]) (h' := y76.2) rfl ?_
        obtain ⟨y78, qy78, hf⟩ := gi_bind hf
        refine gi_EvAi rfl qy78 ?_
        by_cases c80 : gi_is y76.2 x2 6 = true
        rotate_left
        · rw [if_neg c80] at hf; cases hf
        rw [if_pos c80] at hf
        obtain ⟨y79, qy79, hf⟩ := gi_bind hf
        refine gi_EvCV rfl rfl c80 rfl rfl (e_X6_behind y76.2 _ _ _ qy79) ?_
        show gi_Ev M_L_law 387 [some (.ref x0), some (.ref x1), some (.ref x2), some (.int x3)] [.int y79.1, .int y76.1] y79.2 _
        refine gi_Ev_ieq rfl (fun c81 => ?_) (fun c81 => ?_)
        · rw [if_pos c81] at hf
          refine gi_EvN 2 (pc' := 18) (lv' := [some (.ref x0), some (.ref x1), some (.ref x2), some (.int (x3 + 6))]) (st' := []) (h' := y79.2) rfl ?_
          exact ih  _ _  _  _  _ _ hf
        · rw [if_neg c81] at hf
          refine gi_EvN 1 (pc' := 391) (lv' := [some (.ref x0), some (.ref x1), some (.ref x2), some (.int x3)]) (st' := [.int 0]) (h' := y79.2) rfl ?_
          cases hf
          exact gi_EvR rfl rfl
      rw [if_neg c74] at hf
      by_cases c82 : (y3 &&& 31) = 10
      · rw [if_pos c82] at hf
        refine gi_EvTs (t := 392) rfl (gi_sw_at c82 (by decide)) ?_
        refine gi_EvN 5 (pc' := 397) (lv' := [some (.ref x0), some (.ref x1), some (.ref x2), some (.int x3)]) (st' := [.int (x3 + 1), .ref x0, .ref x1]) (h' := h) rfl ?_
        obtain ⟨y83, qy83, hf⟩ := gi_bind hf
        refine gi_EvAi rfl qy83 ?_
        refine gi_EvN 4 (pc' := 402) (lv' := [some (.ref x0), some (.ref x1), some (.ref x2), some (.int x3)]) (st' := [.int (x3 + 2), .ref x0, .int y83, .ref x1]) (h' := h) rfl ?_
        obtain ⟨y84, qy84, hf⟩ := gi_bind hf
        refine gi_EvAi rfl qy84 ?_
        by_cases c86 : gi_is h x1 5 = true
        rotate_left
        · rw [if_neg c86] at hf; cases hf
        rw [if_pos c86] at hf
        obtain ⟨y85, qy85, hf⟩ := gi_bind hf
        refine gi_EvCV rfl rfl c86 rfl rfl (e_X5_policy h _ _ _ _ qy85) ?_
        show gi_Ev M_L_law 406 [some (.ref x0), some (.ref x1), some (.ref x2), some (.int x3)] [.int y85] h _
        refine gi_EvN 5 (pc' := 411) (lv' := [some (.ref x0), some (.ref x1), some (.ref x2), some (.int x3)]) (st' := [.int (x3 + 1), .ref x0, .ref x2, .int y85]) (h' := h) rfl ?_
        obtain ⟨y87, qy87, hf⟩ := gi_bind hf
        refine gi_EvAi rfl qy87 ?_
        refine gi_EvN 4 (pc' := 416) (lv' := [some (.ref x0), some (.ref x1), some (.ref x2), some (.int x3)]) (st' := [.int (x3 + 2), .ref x0, .int y87, .ref x2, .int y85]) (h' := h) rfl ?_
        obtain ⟨y88, qy88, hf⟩ := gi_bind hf
        refine gi_EvAi rfl qy88 ?_
        by_cases c90 : gi_is h x2 6 = true
        rotate_left
        · rw [if_neg c90] at hf; cases hf
        rw [if_pos c90] at hf
        obtain ⟨y89, qy89, hf⟩ := gi_bind hf
        refine gi_EvCV rfl rfl c90 rfl rfl (e_X6_policy h _ _ _ _ qy89) ?_
        show gi_Ev M_L_law 420 [some (.ref x0), some (.ref x1), some (.ref x2), some (.int x3)] [.int y89, .int y85] h _
        refine gi_Ev_ieq rfl (fun c91 => ?_) (fun c91 => ?_)
        · rw [if_pos c91] at hf
          refine gi_EvN 2 (pc' := 18) (lv' := [some (.ref x0), some (.ref x1), some (.ref x2), some (.int (x3 + 6))]) (st' := []) (h' := h) rfl ?_
          exact ih  _ _  _  _  _ _ hf
        · rw [if_neg c91] at hf
          refine gi_EvN 1 (pc' := 424) (lv' := [some (.ref x0), some (.ref x1), some (.ref x2), some (.int x3)]) (st' := [.int 0]) (h' := h) rfl ?_
          cases hf
          exact gi_EvR rfl rfl
      rw [if_neg c82] at hf
      by_cases c92 : (y3 &&& 31) = 11
      · rw [if_pos c92] at hf
        refine gi_EvTs (t := 425) rfl (gi_sw_at c92 (by decide)) ?_
        refine gi_EvN 5 (pc' := 430) (lv' := [some (.ref x0), some (.ref x1), some (.ref x2), some (.int x3)]) (st' := [.int (x3 + 1), .ref x0, .ref x1]) (h' := h) rfl ?_
        obtain ⟨y93, qy93, hf⟩ := gi_bind hf
        refine gi_EvAi rfl qy93 ?_
        refine gi_EvN 4 (pc' := 435) (lv' := [some (.ref x0), some (.ref x1), some (.ref x2), some (.int x3)]) (st' := [.int (x3 + 2), .ref x0, .int y93, .ref x1]) (h' := h) rfl ?_
        obtain ⟨y94, qy94, hf⟩ := gi_bind hf
        refine gi_EvAi rfl qy94 ?_
        refine gi_EvN 4 (pc' := 440) (lv' := [some (.ref x0), some (.ref x1), some (.ref x2), some (.int x3)]) (st' := [.int (x3 + 3), .ref x0, .int y94, .int y93, .ref x1]) (h' := h) rfl ?_
        obtain ⟨y95, qy95, hf⟩ := gi_bind hf
        refine gi_EvAi rfl qy95 ?_
        by_cases c97 : gi_is h x1 5 = true
        rotate_left
        · rw [if_neg c97] at hf; cases hf
        rw [if_pos c97] at hf
        obtain ⟨y96, qy96, hf⟩ := gi_bind hf
        refine gi_EvCV rfl rfl c97 rfl rfl (e_X5_price h _ _ _ _ _ qy96) ?_
        show gi_Ev M_L_law 444 [some (.ref x0), some (.ref x1), some (.ref x2), some (.int x3)] [.int y96] h _
        refine gi_EvN 5 (pc' := 449) (lv' := [some (.ref x0), some (.ref x1), some (.ref x2), some (.int x3)]) (st' := [.int (x3 + 1), .ref x0, .ref x2, .int y96]) (h' := h) rfl ?_
        obtain ⟨y98, qy98, hf⟩ := gi_bind hf
        refine gi_EvAi rfl qy98 ?_
        refine gi_EvN 4 (pc' := 454) (lv' := [some (.ref x0), some (.ref x1), some (.ref x2), some (.int x3)]) (st' := [.int (x3 + 2), .ref x0, .int y98, .ref x2, .int y96]) (h' := h) rfl ?_
        obtain ⟨y99, qy99, hf⟩ := gi_bind hf
        refine gi_EvAi rfl qy99 ?_
        refine gi_EvN 4 (pc' := 459) (lv' := [some (.ref x0), some (.ref x1), some (.ref x2), some (.int x3)]) (st' := [.int (x3 + 3), .ref x0, .int y99, .int y98, .ref x2, .int y96]) (h' := h) rfl ?_
        obtain ⟨y100, qy100, hf⟩ := gi_bind hf
        refine gi_EvAi rfl qy100 ?_
        by_cases c102 : gi_is h x2 6 = true
        rotate_left
        · rw [if_neg c102] at hf; cases hf
        rw [if_pos c102] at hf
        obtain ⟨y101, qy101, hf⟩ := gi_bind hf
        refine gi_EvCV rfl rfl c102 rfl rfl (e_X6_price h _ _ _ _ _ qy101) ?_
        show gi_Ev M_L_law 463 [some (.ref x0), some (.ref x1), some (.ref x2), some (.int x3)] [.int y101, .int y96] h _
        refine gi_Ev_ieq rfl (fun c103 => ?_) (fun c103 => ?_)
        · rw [if_pos c103] at hf
          refine gi_EvN 2 (pc' := 18) (lv' := [some (.ref x0), some (.ref x1), some (.ref x2), some (.int (x3 + 6))]) (st' := []) (h' := h) rfl ?_
          exact ih  _ _  _  _  _ _ hf
        · rw [if_neg c103] at hf
          refine gi_EvN 1 (pc' := 467) (lv' := [some (.ref x0), some (.ref x1), some (.ref x2), some (.int x3)]) (st' := [.int 0]) (h' := h) rfl ?_
          cases hf
          exact gi_EvR rfl rfl
      rw [if_neg c92] at hf
      by_cases c104 : (y3 &&& 31) = 12
      · rw [if_pos c104] at hf
        refine gi_EvTs (t := 468) rfl (gi_sw_at c104 (by decide)) ?_
        refine gi_EvN 5 (pc' := 473) (lv' := [some (.ref x0), some (.ref x1), some (.ref x2), some (.int x3)]) (st' := [.int (x3 + 1), .ref x0, .ref x1]) (h' := h) rfl ?_
        obtain ⟨y105, qy105, hf⟩ := gi_bind hf
        refine gi_EvAi rfl qy105 ?_
        refine gi_EvN 4 (pc' := 478) (lv' := [some (.ref x0), some (.ref x1), some (.ref x2), some (.int x3)]) (st' := [.int (x3 + 2), .ref x0, .int y105, .ref x1]) (h' := h) rfl ?_
        obtain ⟨y106, qy106, hf⟩ := gi_bind hf
        refine gi_EvAi rfl qy106 ?_
        refine gi_EvN 4 (pc' := 483) (lv' := [some (.ref x0), some (.ref x1), some (.ref x2), some (.int x3)]) (st' := [.int (x3 + 3), .ref x0, .int y106, .int y105, .ref x1]) (h' := h) rfl ?_
        obtain ⟨y107, qy107, hf⟩ := gi_bind hf
        refine gi_EvAi rfl qy107 ?_
        by_cases c109 : gi_is h x1 5 = true
        rotate_left
        · rw [if_neg c109] at hf; cases hf
        rw [if_pos c109] at hf
        obtain ⟨y108, qy108, hf⟩ := gi_bind hf
        refine gi_EvCV rfl rfl c109 rfl rfl (e_X5_chance h _ _ _ _ _ qy108) ?_
        show gi_Ev M_L_law 487 [some (.ref x0), some (.ref x1), some (.ref x2), some (.int x3)] [.long y108] h _
        refine gi_EvN 5 (pc' := 492) (lv' := [some (.ref x0), some (.ref x1), some (.ref x2), some (.int x3)]) (st' := [.int (x3 + 1), .ref x0, .ref x2, .long y108]) (h' := h) rfl ?_
        obtain ⟨y110, qy110, hf⟩ := gi_bind hf
        refine gi_EvAi rfl qy110 ?_
        refine gi_EvN 4 (pc' := 497) (lv' := [some (.ref x0), some (.ref x1), some (.ref x2), some (.int x3)]) (st' := [.int (x3 + 2), .ref x0, .int y110, .ref x2, .long y108]) (h' := h) rfl ?_
        obtain ⟨y111, qy111, hf⟩ := gi_bind hf
        refine gi_EvAi rfl qy111 ?_
        refine gi_EvN 4 (pc' := 502) (lv' := [some (.ref x0), some (.ref x1), some (.ref x2), some (.int x3)]) (st' := [.int (x3 + 3), .ref x0, .int y111, .int y110, .ref x2, .long y108]) (h' := h) rfl ?_
        obtain ⟨y112, qy112, hf⟩ := gi_bind hf
        refine gi_EvAi rfl qy112 ?_
        by_cases c114 : gi_is h x2 6 = true
        rotate_left
        · rw [if_neg c114] at hf; cases hf
        rw [if_pos c114] at hf
        obtain ⟨y113, qy113, hf⟩ := gi_bind hf
        refine gi_EvCV rfl rfl c114 rfl rfl (e_X6_chance h _ _ _ _ _ qy113) ?_
        show gi_Ev M_L_law 506 [some (.ref x0), some (.ref x1), some (.ref x2), some (.int x3)] [.long y113, .long y108] h _
        refine gi_EvN 1 (pc' := 507) (lv' := [some (.ref x0), some (.ref x1), some (.ref x2), some (.int x3)]) (st' := [.int (lg_cmp y108 y113)]) (h' := h) rfl ?_
        refine gi_Ev_eq rfl (fun c115 => ?_) (fun c115 => ?_)
        · rw [if_pos c115] at hf
          refine gi_EvN 2 (pc' := 18) (lv' := [some (.ref x0), some (.ref x1), some (.ref x2), some (.int (x3 + 6))]) (st' := []) (h' := h) rfl ?_
          exact ih  _ _  _  _  _ _ hf
        · rw [if_neg c115] at hf
          refine gi_EvN 1 (pc' := 511) (lv' := [some (.ref x0), some (.ref x1), some (.ref x2), some (.int x3)]) (st' := [.int 0]) (h' := h) rfl ?_
          cases hf
          exact gi_EvR rfl rfl
      rw [if_neg c104] at hf
      by_cases c116 : (y3 &&& 31) = 13
      · rw [if_pos c116] at hf
        refine gi_EvTs (t := 512) rfl (gi_sw_at c116 (by decide)) ?_
        refine gi_EvN 5 (pc' := 517) (lv' := [some (.ref x0), some (.ref x1), some (.ref x2), some (.int x3)]) (st' := [.int (x3 + 1), .ref x0, .ref x1]) (h' := h) rfl ?_
        obtain ⟨y117, qy117, hf⟩ := gi_bind hf
        refine gi_EvAi rfl qy117 ?_
        refine gi_EvN 4 (pc' := 522) (lv' := [some (.ref x0), some (.ref x1), some (.ref x2), some (.int x3)]) (st' := [.int (x3 + 2), .ref x0, .int y117, .ref x1]) (h' := h) rfl ?_
        obtain ⟨y118, qy118, hf⟩ := gi_bind hf
        refine gi_EvAi rfl qy118 ?_
        by_cases c120 : gi_is h x1 5 = true
        rotate_left
        · rw [if_neg c120] at hf; cases hf
        rw [if_pos c120] at hf
        obtain ⟨y119, qy119, hf⟩ := gi_bind hf
        refine gi_EvCV rfl rfl c120 rfl rfl (e_X5_gains h _ _ _ _ qy119) ?_
        show gi_Ev M_L_law 526 [some (.ref x0), some (.ref x1), some (.ref x2), some (.int x3)] [.int y119] h _
        refine gi_EvN 5 (pc' := 531) (lv' := [some (.ref x0), some (.ref x1), some (.ref x2), some (.int x3)]) (st' := [.int (x3 + 1), .ref x0, .ref x2, .int y119]) (h' := h) rfl ?_
        obtain ⟨y121, qy121, hf⟩ := gi_bind hf
        refine gi_EvAi rfl qy121 ?_
        refine gi_EvN 4 (pc' := 536) (lv' := [some (.ref x0), some (.ref x1), some (.ref x2), some (.int x3)]) (st' := [.int (x3 + 2), .ref x0, .int y121, .ref x2, .int y119]) (h' := h) rfl ?_
        obtain ⟨y122, qy122, hf⟩ := gi_bind hf
        refine gi_EvAi rfl qy122 ?_
        by_cases c124 : gi_is h x2 6 = true
        rotate_left
        · rw [if_neg c124] at hf; cases hf
        rw [if_pos c124] at hf
        obtain ⟨y123, qy123, hf⟩ := gi_bind hf
        refine gi_EvCV rfl rfl c124 rfl rfl (e_X6_gains h _ _ _ _ qy123) ?_
        show gi_Ev M_L_law 540 [some (.ref x0), some (.ref x1), some (.ref x2), some (.int x3)] [.int y123, .int y119] h _
        refine gi_Ev_ieq rfl (fun c125 => ?_) (fun c125 => ?_)
        · rw [if_pos c125] at hf
          refine gi_EvN 2 (pc' := 18) (lv' := [some (.ref x0), some (.ref x1), some (.ref x2), some (.int (x3 + 6))]) (st' := []) (h' := h) rfl ?_
          exact ih  _ _  _  _  _ _ hf
        · rw [if_neg c125] at hf
          refine gi_EvN 1 (pc' := 544) (lv' := [some (.ref x0), some (.ref x1), some (.ref x2), some (.int x3)]) (st' := [.int 0]) (h' := h) rfl ?_
          cases hf
          exact gi_EvR rfl rfl
      rw [if_neg c116] at hf
      by_cases c126 : (y3 &&& 31) = 14
      · rw [if_pos c126] at hf
        refine gi_EvTs (t := 545) rfl (gi_sw_at c126 (by decide)) ?_
        refine gi_EvN 5 (pc' := 550) (lv' := [some (.ref x0), some (.ref x1), some (.ref x2), some (.int x3)]) (st' := [.int (x3 + 1), .ref x0, .ref x1]) (h' := h) rfl ?_
        obtain ⟨y127, qy127, hf⟩ := gi_bind hf
        refine gi_EvAi rfl qy127 ?_
        by_cases c129 : gi_is h x1 5 = true
        rotate_left
        · rw [if_neg c129] at hf; cases hf
        rw [if_pos c129] at hf
        obtain ⟨y128, qy128, hf⟩ := gi_bind hf
        refine gi_EvCV rfl rfl c129 rfl rfl (e_X5_worth h _ _ _ qy128) ?_
        show gi_Ev M_L_law 554 [some (.ref x0), some (.ref x1), some (.ref x2), some (.int x3)] [.int y128] h _
        refine gi_EvN 5 (pc' := 559) (lv' := [some (.ref x0), some (.ref x1), some (.ref x2), some (.int x3)]) (st' := [.int (x3 + 1), .ref x0, .ref x2, .int y128]) (h' := h) rfl ?_
        obtain ⟨y130, qy130, hf⟩ := gi_bind hf
        refine gi_EvAi rfl qy130 ?_
        by_cases c132 : gi_is h x2 6 = true
        rotate_left
        · rw [if_neg c132] at hf; cases hf
        rw [if_pos c132] at hf
        obtain ⟨y131, qy131, hf⟩ := gi_bind hf
        refine gi_EvCV rfl rfl c132 rfl rfl (e_X6_worth h _ _ _ qy131) ?_
        show gi_Ev M_L_law 563 [some (.ref x0), some (.ref x1), some (.ref x2), some (.int x3)] [.int y131, .int y128] h _
        refine gi_Ev_ieq rfl (fun c133 => ?_) (fun c133 => ?_)
        · rw [if_pos c133] at hf
          refine gi_EvN 2 (pc' := 18) (lv' := [some (.ref x0), some (.ref x1), some (.ref x2), some (.int (x3 + 6))]) (st' := []) (h' := h) rfl ?_
          exact ih  _ _  _  _  _ _ hf
        · rw [if_neg c133] at hf
          refine gi_EvN 1 (pc' := 567) (lv' := [some (.ref x0), some (.ref x1), some (.ref x2), some (.int x3)]) (st' := [.int 0]) (h' := h) rfl ?_
          cases hf
          exact gi_EvR rfl rfl
      rw [if_neg c126] at hf
      by_cases c134 : (y3 &&& 31) = 15
      · rw [if_pos c134] at hf
        refine gi_EvTs (t := 568) rfl (gi_sw_at c134 (by decide)) ?_
        refine gi_EvN 5 (pc' := 573) (lv' := [some (.ref x0), some (.ref x1), some (.ref x2), some (.int x3)]) (st' := [.int (x3 + 1), .ref x0, .ref x1]) (h' := h) rfl ?_
        obtain ⟨y135, qy135, hf⟩ := gi_bind hf
        refine gi_EvAi rfl qy135 ?_
        refine gi_EvN 4 (pc' := 578) (lv' := [some (.ref x0), some (.ref x1), some (.ref x2), some (.int x3)]) (st' := [.int (x3 + 2), .ref x0, .int y135, .ref x1]) (h' := h) rfl ?_
        obtain ⟨y136, qy136, hf⟩ := gi_bind hf
        refine gi_EvAi rfl qy136 ?_
        refine gi_EvN 4 (pc' := 583) (lv' := [some (.ref x0), some (.ref x1), some (.ref x2), some (.int x3)]) (st' := [.int (x3 + 3), .ref x0, .int y136, .int y135, .ref x1]) (h' := h) rfl ?_
        obtain ⟨y137, qy137, hf⟩ := gi_bind hf
        refine gi_EvAi rfl qy137 ?_
        refine gi_EvN 4 (pc' := 588) (lv' := [some (.ref x0), some (.ref x1), some (.ref x2), some (.int x3)]) (st' := [.int (x3 + 4), .ref x0, .int y137, .int y136, .int y135, .ref x1]) (h' := h) rfl ?_
        obtain ⟨y138, qy138, hf⟩ := gi_bind hf
        refine gi_EvAi rfl qy138 ?_
        refine gi_EvN 4 (pc' := 593) (lv' := [some (.ref x0), some (.ref x1), some (.ref x2), some (.int x3)]) (st' := [.int (x3 + 5), .ref x0, .int y138, .int y137, .int y136, .int y135, .ref x1]) (h' := h) rfl ?_
        obtain ⟨y139, qy139, hf⟩ := gi_bind hf
        refine gi_EvAi rfl qy139 ?_
        by_cases c141 : gi_is h x1 5 = true
        rotate_left
        · rw [if_neg c141] at hf; cases hf
        rw [if_pos c141] at hf
        obtain ⟨y140, qy140, hf⟩ := gi_bind hf
        refine gi_EvCV rfl rfl c141 rfl rfl (e_X5_best h _ _ _ _ _ _ _ qy140) ?_
        show gi_Ev M_L_law 597 [some (.ref x0), some (.ref x1), some (.ref x2), some (.int x3)] [.long y140.1] y140.2 _
        refine gi_EvN 5 (pc' := 602) (lv' := [some (.ref x0), some (.ref x1), some (.ref x2), some (.int x3)]) (st' := [.int (x3 + 1), .ref x0, .ref x2, .long y140.1]) (h' := y140.2) rfl ?_
        obtain ⟨y142, qy142, hf⟩ := gi_bind hf
        refine gi_EvAi rfl qy142 ?_
        refine gi_EvN 4 (pc' := 607) (lv' := [some (.ref x0), some (.ref x1), some (.ref x2), some (.int x3)]) (st' := [.int (x3 + 2), .ref x0, .int y142, .ref x2, .long y140.1]) (h' := y140.2) rfl ?_
        obtain ⟨y143, qy143, hf⟩ := gi_bind hf
        refine gi_EvAi rfl qy143 ?_
        refine gi_EvN 4 (pc' := 612) (lv' := [some (.ref x0), some (.ref x1), some (.ref x2), some (.int x3)]) (st' := [.int (x3 + 3), .ref x0, .int y143, .int y142, .ref x2, .long y140.1]) (h' := y140.2) rfl ?_
        obtain ⟨y144, qy144, hf⟩ := gi_bind hf
        refine gi_EvAi rfl qy144 ?_
        refine gi_EvN 4 (pc' := 617) (lv' := [some (.ref x0), some (.ref x1), some (.ref x2), some (.int x3)]) (st' := [.int (x3 + 4), .ref x0, .int y144, .int y143, .int y142, .ref x2, .long y140.1]) (h' := y140.2) rfl ?_
        obtain ⟨y145, qy145, hf⟩ := gi_bind hf
        refine gi_EvAi rfl qy145 ?_
        refine gi_EvN 4 (pc' := 622) (lv' := [some (.ref x0), some (.ref x1), some (.ref x2), some (.int x3)]) (st' := [.int (x3 + 5), .ref x0, .int y145, .int y144, .int y143, .int y142, .ref x2, .long y140.1]) (h' := y140.2) rfl ?_
        obtain ⟨y146, qy146, hf⟩ := gi_bind hf
        refine gi_EvAi rfl qy146 ?_
        by_cases c148 : gi_is y140.2 x2 6 = true
        rotate_left
        · rw [if_neg c148] at hf; cases hf
        rw [if_pos c148] at hf
        obtain ⟨y147, qy147, hf⟩ := gi_bind hf
        refine gi_EvCV rfl rfl c148 rfl rfl (e_X6_best y140.2 _ _ _ _ _ _ _ qy147) ?_
        show gi_Ev M_L_law 626 [some (.ref x0), some (.ref x1), some (.ref x2), some (.int x3)] [.long y147.1, .long y140.1] y147.2 _
        refine gi_EvN 1 (pc' := 627) (lv' := [some (.ref x0), some (.ref x1), some (.ref x2), some (.int x3)]) (st' := [.int (lg_cmp y140.1 y147.1)]) (h' := y147.2) rfl ?_
        refine gi_Ev_eq rfl (fun c149 => ?_) (fun c149 => ?_)
        · rw [if_pos c149] at hf
          refine gi_EvN 2 (pc' := 18) (lv' := [some (.ref x0), some (.ref x1), some (.ref x2), some (.int (x3 + 6))]) (st' := []) (h' := y147.2) rfl ?_
          exact ih  _ _  _  _  _ _ hf
        · rw [if_neg c149] at hf
          refine gi_EvN 1 (pc' := 631) (lv' := [some (.ref x0), some (.ref x1), some (.ref x2), some (.int x3)]) (st' := [.int 0]) (h' := y147.2) rfl ?_
          cases hf
          exact gi_EvR rfl rfl
      rw [if_neg c134] at hf
      by_cases c150 : (y3 &&& 31) = 16
      · rw [if_pos c150] at hf
        refine gi_EvTs (t := 632) rfl (gi_sw_at c150 (by decide)) ?_
        refine gi_EvN 5 (pc' := 637) (lv' := [some (.ref x0), some (.ref x1), some (.ref x2), some (.int x3)]) (st' := [.int (x3 + 1), .ref x0, .ref x1]) (h' := h) rfl ?_
        obtain ⟨y151, qy151, hf⟩ := gi_bind hf
        refine gi_EvAi rfl qy151 ?_
        refine gi_EvN 4 (pc' := 642) (lv' := [some (.ref x0), some (.ref x1), some (.ref x2), some (.int x3)]) (st' := [.int (x3 + 2), .ref x0, .int y151, .ref x1]) (h' := h) rfl ?_
        obtain ⟨y152, qy152, hf⟩ := gi_bind hf
        refine gi_EvAi rfl qy152 ?_
        refine gi_EvN 4 (pc' := 647) (lv' := [some (.ref x0), some (.ref x1), some (.ref x2), some (.int x3)]) (st' := [.int (x3 + 3), .ref x0, .int y152, .int y151, .ref x1]) (h' := h) rfl ?_
        obtain ⟨y153, qy153, hf⟩ := gi_bind hf
        refine gi_EvAi rfl qy153 ?_
        refine gi_EvN 4 (pc' := 652) (lv' := [some (.ref x0), some (.ref x1), some (.ref x2), some (.int x3)]) (st' := [.int (x3 + 4), .ref x0, .int y153, .int y152, .int y151, .ref x1]) (h' := h) rfl ?_
        obtain ⟨y154, qy154, hf⟩ := gi_bind hf
        refine gi_EvAi rfl qy154 ?_
        by_cases c156 : gi_is h x1 5 = true
        rotate_left
        · rw [if_neg c156] at hf; cases hf
        rw [if_pos c156] at hf
        obtain ⟨y155, qy155, hf⟩ := gi_bind hf
        refine gi_EvCV rfl rfl c156 rfl rfl (e_X5_buys h _ _ _ _ _ _ qy155) ?_
        show gi_Ev M_L_law 656 [some (.ref x0), some (.ref x1), some (.ref x2), some (.int x3)] [.int y155.1] y155.2 _
        refine gi_EvN 5 (pc' := 661) (lv' := [some (.ref x0), some (.ref x1), some (.ref x2), some (.int x3)]) (st' := [.int (x3 + 1), .ref x0, .ref x2, .int y155.1]) (h' := y155.2) rfl ?_
        obtain ⟨y157, qy157, hf⟩ := gi_bind hf
        refine gi_EvAi rfl qy157 ?_
        refine gi_EvN 4 (pc' := 666) (lv' := [some (.ref x0), some (.ref x1), some (.ref x2), some (.int x3)]) (st' := [.int (x3 + 2), .ref x0, .int y157, .ref x2, .int y155.1]) (h' := y155.2) rfl ?_
        obtain ⟨y158, qy158, hf⟩ := gi_bind hf
        refine gi_EvAi rfl qy158 ?_
        refine gi_EvN 4 (pc' := 671) (lv' := [some (.ref x0), some (.ref x1), some (.ref x2), some (.int x3)]) (st' := [.int (x3 + 3), .ref x0, .int y158, .int y157, .ref x2, .int y155.1]) (h' := y155.2) rfl ?_
        obtain ⟨y159, qy159, hf⟩ := gi_bind hf
        refine gi_EvAi rfl qy159 ?_
        refine gi_EvN 4 (pc' := 676) (lv' := [some (.ref x0), some (.ref x1), some (.ref x2), some (.int x3)]) (st' := [.int (x3 + 4), .ref x0, .int y159, .int y158, .int y157, .ref x2, .int y155.1]) (h' := y155.2) rfl ?_
        obtain ⟨y160, qy160, hf⟩ := gi_bind hf
        refine gi_EvAi rfl qy160 ?_
        by_cases c162 : gi_is y155.2 x2 6 = true
        rotate_left
        · rw [if_neg c162] at hf; cases hf
        rw [if_pos c162] at hf
        obtain ⟨y161, qy161, hf⟩ := gi_bind hf
        refine gi_EvCV rfl rfl c162 rfl rfl (e_X6_buys y155.2 _ _ _ _ _ _ qy161) ?_
        show gi_Ev M_L_law 680 [some (.ref x0), some (.ref x1), some (.ref x2), some (.int x3)] [.int y161.1, .int y155.1] y161.2 _
        refine gi_Ev_ieq rfl (fun c163 => ?_) (fun c163 => ?_)
        · rw [if_pos c163] at hf
          refine gi_EvN 2 (pc' := 18) (lv' := [some (.ref x0), some (.ref x1), some (.ref x2), some (.int (x3 + 6))]) (st' := []) (h' := y161.2) rfl ?_
          exact ih  _ _  _  _  _ _ hf
        · rw [if_neg c163] at hf
          refine gi_EvN 1 (pc' := 684) (lv' := [some (.ref x0), some (.ref x1), some (.ref x2), some (.int x3)]) (st' := [.int 0]) (h' := y161.2) rfl ?_
          cases hf
          exact gi_EvR rfl rfl
      rw [if_neg c150] at hf
      by_cases c164 : (y3 &&& 31) = 17
      · rw [if_pos c164] at hf
        refine gi_EvTs (t := 685) rfl (gi_sw_at c164 (by decide)) ?_
        refine gi_EvN 5 (pc' := 690) (lv' := [some (.ref x0), some (.ref x1), some (.ref x2), some (.int x3)]) (st' := [.int (x3 + 1), .ref x0, .ref x1]) (h' := h) rfl ?_
        obtain ⟨y165, qy165, hf⟩ := gi_bind hf
        refine gi_EvAi rfl qy165 ?_
        refine gi_EvN 4 (pc' := 695) (lv' := [some (.ref x0), some (.ref x1), some (.ref x2), some (.int x3)]) (st' := [.int (x3 + 2), .ref x0, .int y165, .ref x1]) (h' := h) rfl ?_
        obtain ⟨y166, qy166, hf⟩ := gi_bind hf
        refine gi_EvAi rfl qy166 ?_
        by_cases c168 : gi_is h x1 5 = true
        rotate_left
        · rw [if_neg c168] at hf; cases hf
        rw [if_pos c168] at hf
        obtain ⟨y167, qy167, hf⟩ := gi_bind hf
        refine gi_EvCV rfl rfl c168 rfl rfl (e_X5_voids h _ _ _ _ qy167) ?_
        show gi_Ev M_L_law 699 [some (.ref x0), some (.ref x1), some (.ref x2), some (.int x3)] [.int y167] h _
        refine gi_EvN 5 (pc' := 704) (lv' := [some (.ref x0), some (.ref x1), some (.ref x2), some (.int x3)]) (st' := [.int (x3 + 1), .ref x0, .ref x2, .int y167]) (h' := h) rfl ?_
        obtain ⟨y169, qy169, hf⟩ := gi_bind hf
        refine gi_EvAi rfl qy169 ?_
        refine gi_EvN 4 (pc' := 709) (lv' := [some (.ref x0), some (.ref x1), some (.ref x2), some (.int x3)]) (st' := [.int (x3 + 2), .ref x0, .int y169, .ref x2, .int y167]) (h' := h) rfl ?_
        obtain ⟨y170, qy170, hf⟩ := gi_bind hf
        refine gi_EvAi rfl qy170 ?_
        by_cases c172 : gi_is h x2 6 = true
        rotate_left
        · rw [if_neg c172] at hf; cases hf
        rw [if_pos c172] at hf
        obtain ⟨y171, qy171, hf⟩ := gi_bind hf
        refine gi_EvCV rfl rfl c172 rfl rfl (e_X6_voids h _ _ _ _ qy171) ?_
        show gi_Ev M_L_law 713 [some (.ref x0), some (.ref x1), some (.ref x2), some (.int x3)] [.int y171.1, .int y167] y171.2 _
        refine gi_Ev_ieq rfl (fun c173 => ?_) (fun c173 => ?_)
        · rw [if_pos c173] at hf
          refine gi_EvN 2 (pc' := 18) (lv' := [some (.ref x0), some (.ref x1), some (.ref x2), some (.int (x3 + 6))]) (st' := []) (h' := y171.2) rfl ?_
          exact ih  _ _  _  _  _ _ hf
        · rw [if_neg c173] at hf
          refine gi_EvN 1 (pc' := 717) (lv' := [some (.ref x0), some (.ref x1), some (.ref x2), some (.int x3)]) (st' := [.int 0]) (h' := y171.2) rfl ?_
          cases hf
          exact gi_EvR rfl rfl
      rw [if_neg c164] at hf
      by_cases c174 : (y3 &&& 31) = 18
      · rw [if_pos c174] at hf
        refine gi_EvTs (t := 718) rfl (gi_sw_at c174 (by decide)) ?_
        refine gi_EvN 5 (pc' := 723) (lv' := [some (.ref x0), some (.ref x1), some (.ref x2), some (.int x3)]) (st' := [.int (x3 + 1), .ref x0, .ref x1]) (h' := h) rfl ?_
        obtain ⟨y175, qy175, hf⟩ := gi_bind hf
        refine gi_EvAi rfl qy175 ?_
        refine gi_EvN 4 (pc' := 728) (lv' := [some (.ref x0), some (.ref x1), some (.ref x2), some (.int x3)]) (st' := [.int (x3 + 2), .ref x0, .int y175, .ref x1]) (h' := h) rfl ?_
        obtain ⟨y176, qy176, hf⟩ := gi_bind hf
        refine gi_EvAi rfl qy176 ?_
        refine gi_EvN 4 (pc' := 733) (lv' := [some (.ref x0), some (.ref x1), some (.ref x2), some (.int x3)]) (st' := [.int (x3 + 3), .ref x0, .int y176, .int y175, .ref x1]) (h' := h) rfl ?_
        obtain ⟨y177, qy177, hf⟩ := gi_bind hf
        refine gi_EvAi rfl qy177 ?_
        by_cases c179 : gi_is h x1 5 = true
        rotate_left
        · rw [if_neg c179] at hf; cases hf
        rw [if_pos c179] at hf
        obtain ⟨y178, qy178, hf⟩ := gi_bind hf
        refine gi_EvCV rfl rfl c179 rfl rfl (e_X5_ruin h _ _ _ _ _ qy178) ?_
        show gi_Ev M_L_law 737 [some (.ref x0), some (.ref x1), some (.ref x2), some (.int x3)] [.long y178] h _
        refine gi_EvN 5 (pc' := 742) (lv' := [some (.ref x0), some (.ref x1), some (.ref x2), some (.int x3)]) (st' := [.int (x3 + 1), .ref x0, .ref x2, .long y178]) (h' := h) rfl ?_
        obtain ⟨y180, qy180, hf⟩ := gi_bind hf
        refine gi_EvAi rfl qy180 ?_
        refine gi_EvN 4 (pc' := 747) (lv' := [some (.ref x0), some (.ref x1), some (.ref x2), some (.int x3)]) (st' := [.int (x3 + 2), .ref x0, .int y180, .ref x2, .long y178]) (h' := h) rfl ?_
        obtain ⟨y181, qy181, hf⟩ := gi_bind hf
        refine gi_EvAi rfl qy181 ?_
        refine gi_EvN 4 (pc' := 752) (lv' := [some (.ref x0), some (.ref x1), some (.ref x2), some (.int x3)]) (st' := [.int (x3 + 3), .ref x0, .int y181, .int y180, .ref x2, .long y178]) (h' := h) rfl ?_
        obtain ⟨y182, qy182, hf⟩ := gi_bind hf
        refine gi_EvAi rfl qy182 ?_
        by_cases c184 : gi_is h x2 6 = true
        rotate_left
        · rw [if_neg c184] at hf; cases hf
        rw [if_pos c184] at hf
        obtain ⟨y183, qy183, hf⟩ := gi_bind hf
        refine gi_EvCV rfl rfl c184 rfl rfl (e_X6_ruin h _ _ _ _ _ qy183) ?_
        show gi_Ev M_L_law 756 [some (.ref x0), some (.ref x1), some (.ref x2), some (.int x3)] [.long y183, .long y178] h _
        refine gi_EvN 1 (pc' := 757) (lv' := [some (.ref x0), some (.ref x1), some (.ref x2), some (.int x3)]) (st' := [.int (lg_cmp y178 y183)]) (h' := h) rfl ?_
        refine gi_Ev_eq rfl (fun c185 => ?_) (fun c185 => ?_)
        · rw [if_pos c185] at hf
          refine gi_EvN 2 (pc' := 18) (lv' := [some (.ref x0), some (.ref x1), some (.ref x2), some (.int (x3 + 6))]) (st' := []) (h' := h) rfl ?_
          exact ih  _ _  _  _  _ _ hf
        · rw [if_neg c185] at hf
          refine gi_EvN 1 (pc' := 761) (lv' := [some (.ref x0), some (.ref x1), some (.ref x2), some (.int x3)]) (st' := [.int 0]) (h' := h) rfl ?_
          cases hf
          exact gi_EvR rfl rfl
      rw [if_neg c174] at hf
      by_cases c186 : (y3 &&& 31) = 19
      · rw [if_pos c186] at hf
        refine gi_EvTs (t := 762) rfl (gi_sw_at c186 (by decide)) ?_
        refine gi_EvN 5 (pc' := 767) (lv' := [some (.ref x0), some (.ref x1), some (.ref x2), some (.int x3)]) (st' := [.int (x3 + 1), .ref x0, .ref x1]) (h' := h) rfl ?_
        obtain ⟨y187, qy187, hf⟩ := gi_bind hf
        refine gi_EvAi rfl qy187 ?_
        refine gi_EvN 4 (pc' := 772) (lv' := [some (.ref x0), some (.ref x1), some (.ref x2), some (.int x3)]) (st' := [.int (x3 + 2), .ref x0, .int y187, .ref x1]) (h' := h) rfl ?_
        obtain ⟨y188, qy188, hf⟩ := gi_bind hf
        refine gi_EvAi rfl qy188 ?_
        refine gi_EvN 4 (pc' := 777) (lv' := [some (.ref x0), some (.ref x1), some (.ref x2), some (.int x3)]) (st' := [.int (x3 + 3), .ref x0, .int y188, .int y187, .ref x1]) (h' := h) rfl ?_
        obtain ⟨y189, qy189, hf⟩ := gi_bind hf
        refine gi_EvAi rfl qy189 ?_
        by_cases c191 : gi_is h x1 5 = true
        rotate_left
        · rw [if_neg c191] at hf; cases hf
        rw [if_pos c191] at hf
        obtain ⟨y190, qy190, hf⟩ := gi_bind hf
        refine gi_EvCV rfl rfl c191 rfl rfl (e_X5_tells h _ _ _ _ _ qy190) ?_
        show gi_Ev M_L_law 781 [some (.ref x0), some (.ref x1), some (.ref x2), some (.int x3)] [.int y190] h _
        refine gi_EvN 5 (pc' := 786) (lv' := [some (.ref x0), some (.ref x1), some (.ref x2), some (.int x3)]) (st' := [.int (x3 + 1), .ref x0, .ref x2, .int y190]) (h' := h) rfl ?_
        obtain ⟨y192, qy192, hf⟩ := gi_bind hf
        refine gi_EvAi rfl qy192 ?_
        refine gi_EvN 4 (pc' := 791) (lv' := [some (.ref x0), some (.ref x1), some (.ref x2), some (.int x3)]) (st' := [.int (x3 + 2), .ref x0, .int y192, .ref x2, .int y190]) (h' := h) rfl ?_
        obtain ⟨y193, qy193, hf⟩ := gi_bind hf
        refine gi_EvAi rfl qy193 ?_
        refine gi_EvN 4 (pc' := 796) (lv' := [some (.ref x0), some (.ref x1), some (.ref x2), some (.int x3)]) (st' := [.int (x3 + 3), .ref x0, .int y193, .int y192, .ref x2, .int y190]) (h' := h) rfl ?_
        obtain ⟨y194, qy194, hf⟩ := gi_bind hf
        refine gi_EvAi rfl qy194 ?_
        by_cases c196 : gi_is h x2 6 = true
        rotate_left
        · rw [if_neg c196] at hf; cases hf
        rw [if_pos c196] at hf
        obtain ⟨y195, qy195, hf⟩ := gi_bind hf
        refine gi_EvCV rfl rfl c196 rfl rfl (e_X6_tells h _ _ _ _ _ qy195) ?_
        show gi_Ev M_L_law 800 [some (.ref x0), some (.ref x1), some (.ref x2), some (.int x3)] [.int y195, .int y190] h _
        refine gi_Ev_ieq rfl (fun c197 => ?_) (fun c197 => ?_)
        · rw [if_pos c197] at hf
          refine gi_EvN 2 (pc' := 18) (lv' := [some (.ref x0), some (.ref x1), some (.ref x2), some (.int (x3 + 6))]) (st' := []) (h' := h) rfl ?_
          exact ih  _ _  _  _  _ _ hf
        · rw [if_neg c197] at hf
          refine gi_EvN 1 (pc' := 804) (lv' := [some (.ref x0), some (.ref x1), some (.ref x2), some (.int x3)]) (st' := [.int 0]) (h' := h) rfl ?_
          cases hf
          exact gi_EvR rfl rfl
      rw [if_neg c186] at hf
      by_cases c198 : (y3 &&& 31) = 20
      · rw [if_pos c198] at hf
        refine gi_EvTs (t := 805) rfl (gi_sw_at c198 (by decide)) ?_
        refine gi_EvN 1 (pc' := 806) (lv' := [some (.ref x0), some (.ref x1), some (.ref x2), some (.int x3)]) (st' := [.ref x1]) (h' := h) rfl ?_
        by_cases c200 : gi_is h x1 5 = true
        rotate_left
        · rw [if_neg c200] at hf; cases hf
        rw [if_pos c200] at hf
        obtain ⟨y199, qy199, hf⟩ := gi_bind hf
        refine gi_EvCV rfl rfl c200 rfl rfl (e_X5_parts h _ _ qy199) ?_
        show gi_Ev M_L_law 809 [some (.ref x0), some (.ref x1), some (.ref x2), some (.int x3)] [.int y199] h _
        refine gi_EvN 1 (pc' := 810) (lv' := [some (.ref x0), some (.ref x1), some (.ref x2), some (.int x3)]) (st' := [.ref x2, .int y199]) (h' := h) rfl ?_
        by_cases c202 : gi_is h x2 6 = true
        rotate_left
        · rw [if_neg c202] at hf; cases hf
        rw [if_pos c202] at hf
        obtain ⟨y201, qy201, hf⟩ := gi_bind hf
        refine gi_EvCV rfl rfl c202 rfl rfl (e_X6_parts h _ _ qy201) ?_
        show gi_Ev M_L_law 813 [some (.ref x0), some (.ref x1), some (.ref x2), some (.int x3)] [.int y201, .int y199] h _
        refine gi_Ev_ieq rfl (fun c203 => ?_) (fun c203 => ?_)
        · rw [if_pos c203] at hf
          refine gi_EvN 2 (pc' := 18) (lv' := [some (.ref x0), some (.ref x1), some (.ref x2), some (.int (x3 + 6))]) (st' := []) (h' := h) rfl ?_
          exact ih  _ _  _  _  _ _ hf
        · rw [if_neg c203] at hf
          refine gi_EvN 1 (pc' := 817) (lv' := [some (.ref x0), some (.ref x1), some (.ref x2), some (.int x3)]) (st' := [.int 0]) (h' := h) rfl ?_
          cases hf
          exact gi_EvR rfl rfl
      rw [if_neg c198] at hf
      by_cases c204 : (y3 &&& 31) = 21
      · rw [if_pos c204] at hf
        refine gi_EvTs (t := 818) rfl (gi_sw_at c204 (by decide)) ?_
        refine gi_EvN 5 (pc' := 823) (lv' := [some (.ref x0), some (.ref x1), some (.ref x2), some (.int x3)]) (st' := [.int (x3 + 1), .ref x0, .ref x1]) (h' := h) rfl ?_
        obtain ⟨y205, qy205, hf⟩ := gi_bind hf
        refine gi_EvAi rfl qy205 ?_
        refine gi_EvN 4 (pc' := 828) (lv' := [some (.ref x0), some (.ref x1), some (.ref x2), some (.int x3)]) (st' := [.int (x3 + 2), .ref x0, .int y205, .ref x1]) (h' := h) rfl ?_
        obtain ⟨y206, qy206, hf⟩ := gi_bind hf
        refine gi_EvAi rfl qy206 ?_
        refine gi_EvN 4 (pc' := 833) (lv' := [some (.ref x0), some (.ref x1), some (.ref x2), some (.int x3)]) (st' := [.int (x3 + 3), .ref x0, .int y206, .int y205, .ref x1]) (h' := h) rfl ?_
        obtain ⟨y207, qy207, hf⟩ := gi_bind hf
        refine gi_EvAi rfl qy207 ?_
        by_cases c209 : gi_is h x1 5 = true
        rotate_left
        · rw [if_neg c209] at hf; cases hf
        rw [if_pos c209] at hf
        obtain ⟨y208, qy208, hf⟩ := gi_bind hf
        refine gi_EvCV rfl rfl c209 rfl rfl (e_X5_seen h _ _ _ _ _ qy208) ?_
        show gi_Ev M_L_law 837 [some (.ref x0), some (.ref x1), some (.ref x2), some (.int x3)] [.int y208.1] y208.2 _
        refine gi_EvN 5 (pc' := 842) (lv' := [some (.ref x0), some (.ref x1), some (.ref x2), some (.int x3)]) (st' := [.int (x3 + 1), .ref x0, .ref x2, .int y208.1]) (h' := y208.2) rfl ?_
        obtain ⟨y210, qy210, hf⟩ := gi_bind hf
        refine gi_EvAi rfl qy210 ?_
        refine gi_EvN 4 (pc' := 847) (lv' := [some (.ref x0), some (.ref x1), some (.ref x2), some (.int x3)]) (st' := [.int (x3 + 2), .ref x0, .int y210, .ref x2, .int y208.1]) (h' := y208.2) rfl ?_
        obtain ⟨y211, qy211, hf⟩ := gi_bind hf
        refine gi_EvAi rfl qy211 ?_
        refine gi_EvN 4 (pc' := 852) (lv' := [some (.ref x0), some (.ref x1), some (.ref x2), some (.int x3)]) (st' := [.int (x3 + 3), .ref x0, .int y211, .int y210, .ref x2, .int y208.1]) (h' := y208.2) rfl ?_
        obtain ⟨y212, qy212, hf⟩ := gi_bind hf
        refine gi_EvAi rfl qy212 ?_
        by_cases c214 : gi_is y208.2 x2 6 = true
        rotate_left
        · rw [if_neg c214] at hf; cases hf
        rw [if_pos c214] at hf
        obtain ⟨y213, qy213, hf⟩ := gi_bind hf
        refine gi_EvCV rfl rfl c214 rfl rfl (e_X6_seen y208.2 _ _ _ _ _ qy213) ?_
        show gi_Ev M_L_law 856 [some (.ref x0), some (.ref x1), some (.ref x2), some (.int x3)] [.int y213.1, .int y208.1] y213.2 _
        refine gi_Ev_ieq rfl (fun c215 => ?_) (fun c215 => ?_)
        · rw [if_pos c215] at hf
          refine gi_EvN 2 (pc' := 18) (lv' := [some (.ref x0), some (.ref x1), some (.ref x2), some (.int (x3 + 6))]) (st' := []) (h' := y213.2) rfl ?_
          exact ih  _ _  _  _  _ _ hf
        · rw [if_neg c215] at hf
          refine gi_EvN 1 (pc' := 860) (lv' := [some (.ref x0), some (.ref x1), some (.ref x2), some (.int x3)]) (st' := [.int 0]) (h' := y213.2) rfl ?_
          cases hf
          exact gi_EvR rfl rfl
      rw [if_neg c204] at hf
      by_cases c216 : (y3 &&& 31) = 22
      · rw [if_pos c216] at hf
        refine gi_EvTs (t := 861) rfl (gi_sw_at c216 (by decide)) ?_
        refine gi_EvN 1 (pc' := 862) (lv' := [some (.ref x0), some (.ref x1), some (.ref x2), some (.int x3)]) (st' := [.ref x1]) (h' := h) rfl ?_
        by_cases c218 : gi_is h x1 5 = true
        rotate_left
        · rw [if_neg c218] at hf; cases hf
        rw [if_pos c218] at hf
        obtain ⟨y217, qy217, hf⟩ := gi_bind hf
        refine gi_EvCV rfl rfl c218 rfl rfl (e_X5_forget h _ _ qy217) ?_
        show gi_Ev M_L_law 865 [some (.ref x0), some (.ref x1), some (.ref x2), some (.int x3)] [.int y217.1] y217.2 _
        refine gi_EvN 1 (pc' := 866) (lv' := [some (.ref x0), some (.ref x1), some (.ref x2), some (.int x3)]) (st' := [.ref x2, .int y217.1]) (h' := y217.2) rfl ?_
        by_cases c220 : gi_is y217.2 x2 6 = true
        rotate_left
        · rw [if_neg c220] at hf; cases hf
        rw [if_pos c220] at hf
        obtain ⟨y219, qy219, hf⟩ := gi_bind hf
        refine gi_EvCV rfl rfl c220 rfl rfl (e_X6_forget y217.2 _ _ qy219) ?_
        show gi_Ev M_L_law 869 [some (.ref x0), some (.ref x1), some (.ref x2), some (.int x3)] [.int y219.1, .int y217.1] y219.2 _
        refine gi_Ev_ieq rfl (fun c221 => ?_) (fun c221 => ?_)
        · rw [if_pos c221] at hf
          refine gi_EvN 2 (pc' := 18) (lv' := [some (.ref x0), some (.ref x1), some (.ref x2), some (.int (x3 + 6))]) (st' := []) (h' := y219.2) rfl ?_
          exact ih  _ _  _  _  _ _ hf
        · rw [if_neg c221] at hf
          refine gi_EvN 1 (pc' := 873) (lv' := [some (.ref x0), some (.ref x1), some (.ref x2), some (.int x3)]) (st' := [.int 0]) (h' := y219.2) rfl ?_
          cases hf
          exact gi_EvR rfl rfl
      rw [if_neg c216] at hf
      by_cases c222 : (y3 &&& 31) = 23
      · rw [if_pos c222] at hf
        refine gi_EvTs (t := 874) rfl (gi_sw_at c222 (by decide)) ?_
        refine gi_EvN 5 (pc' := 879) (lv' := [some (.ref x0), some (.ref x1), some (.ref x2), some (.int x3)]) (st' := [.int (x3 + 1), .ref x0, .ref x1]) (h' := h) rfl ?_
        obtain ⟨y223, qy223, hf⟩ := gi_bind hf
        refine gi_EvAi rfl qy223 ?_
        by_cases c225 : gi_is h x1 5 = true
        rotate_left
        · rw [if_neg c225] at hf; cases hf
        rw [if_pos c225] at hf
        obtain ⟨y224, qy224, hf⟩ := gi_bind hf
        refine gi_EvCV rfl rfl c225 rfl rfl (e_X5_liars h _ _ _ qy224) ?_
        show gi_Ev M_L_law 883 [some (.ref x0), some (.ref x1), some (.ref x2), some (.int x3)] [.int y224] h _
        refine gi_EvN 5 (pc' := 888) (lv' := [some (.ref x0), some (.ref x1), some (.ref x2), some (.int x3)]) (st' := [.int (x3 + 1), .ref x0, .ref x2, .int y224]) (h' := h) rfl ?_
        obtain ⟨y226, qy226, hf⟩ := gi_bind hf
        refine gi_EvAi rfl qy226 ?_
        by_cases c228 : gi_is h x2 6 = true
        rotate_left
        · rw [if_neg c228] at hf; cases hf
        rw [if_pos c228] at hf
        obtain ⟨y227, qy227, hf⟩ := gi_bind hf
        refine gi_EvCV rfl rfl c228 rfl rfl (e_X6_liars h _ _ _ qy227) ?_
        show gi_Ev M_L_law 892 [some (.ref x0), some (.ref x1), some (.ref x2), some (.int x3)] [.int y227, .int y224] h _
        refine gi_Ev_ieq rfl (fun c229 => ?_) (fun c229 => ?_)
        · rw [if_pos c229] at hf
          refine gi_EvN 2 (pc' := 18) (lv' := [some (.ref x0), some (.ref x1), some (.ref x2), some (.int (x3 + 6))]) (st' := []) (h' := h) rfl ?_
          exact ih  _ _  _  _  _ _ hf
        · rw [if_neg c229] at hf
          refine gi_EvN 1 (pc' := 896) (lv' := [some (.ref x0), some (.ref x1), some (.ref x2), some (.int x3)]) (st' := [.int 0]) (h' := h) rfl ?_
          cases hf
          exact gi_EvR rfl rfl
      rw [if_neg c222] at hf
      by_cases c230 : (y3 &&& 31) = 24
      · rw [if_pos c230] at hf
        refine gi_EvTs (t := 897) rfl (gi_sw_at c230 (by decide)) ?_
        refine gi_EvN 5 (pc' := 902) (lv' := [some (.ref x0), some (.ref x1), some (.ref x2), some (.int x3)]) (st' := [.int (x3 + 1), .ref x0, .ref x1]) (h' := h) rfl ?_
        obtain ⟨y231, qy231, hf⟩ := gi_bind hf
        refine gi_EvAi rfl qy231 ?_
        by_cases c233 : gi_is h x1 5 = true
        rotate_left
        · rw [if_neg c233] at hf; cases hf
        rw [if_pos c233] at hf
        obtain ⟨y232, qy232, hf⟩ := gi_bind hf
        refine gi_EvCV rfl rfl c233 rfl rfl (e_X5_ask h _ _ _ qy232) ?_
        show gi_Ev M_L_law 906 [some (.ref x0), some (.ref x1), some (.ref x2), some (.int x3)] [.int y232.1] y232.2 _
        refine gi_EvN 5 (pc' := 911) (lv' := [some (.ref x0), some (.ref x1), some (.ref x2), some (.int x3)]) (st' := [.int (x3 + 1), .ref x0, .ref x2, .int y232.1]) (h' := y232.2) rfl ?_
        obtain ⟨y234, qy234, hf⟩ := gi_bind hf
        refine gi_EvAi rfl qy234 ?_
        by_cases c236 : gi_is y232.2 x2 6 = true
        rotate_left
        · rw [if_neg c236] at hf; cases hf
        rw [if_pos c236] at hf
        obtain ⟨y235, qy235, hf⟩ := gi_bind hf
        refine gi_EvCV rfl rfl c236 rfl rfl (e_X6_ask y232.2 _ _ _ qy235) ?_
        show gi_Ev M_L_law 915 [some (.ref x0), some (.ref x1), some (.ref x2), some (.int x3)] [.int y235, .int y232.1] y232.2 _
        refine gi_Ev_ieq rfl (fun c237 => ?_) (fun c237 => ?_)
        · rw [if_pos c237] at hf
          refine gi_EvN 2 (pc' := 18) (lv' := [some (.ref x0), some (.ref x1), some (.ref x2), some (.int (x3 + 6))]) (st' := []) (h' := y232.2) rfl ?_
          exact ih  _ _  _  _  _ _ hf
        · rw [if_neg c237] at hf
          refine gi_EvN 1 (pc' := 919) (lv' := [some (.ref x0), some (.ref x1), some (.ref x2), some (.int x3)]) (st' := [.int 0]) (h' := y232.2) rfl ?_
          cases hf
          exact gi_EvR rfl rfl
      rw [if_neg c230] at hf
      by_cases c238 : (y3 &&& 31) = 25
      · rw [if_pos c238] at hf
        refine gi_EvTs (t := 920) rfl (gi_sw_at c238 (by decide)) ?_
        refine gi_EvN 5 (pc' := 925) (lv' := [some (.ref x0), some (.ref x1), some (.ref x2), some (.int x3)]) (st' := [.int (x3 + 1), .ref x0, .ref x1]) (h' := h) rfl ?_
        obtain ⟨y239, qy239, hf⟩ := gi_bind hf
        refine gi_EvAi rfl qy239 ?_
        by_cases c241 : gi_is h x1 5 = true
        rotate_left
        · rw [if_neg c241] at hf; cases hf
        rw [if_pos c241] at hf
        obtain ⟨y240, qy240, hf⟩ := gi_bind hf
        refine gi_EvCV rfl rfl c241 rfl rfl (e_X5_pass h _ _ _ qy240) ?_
        show gi_Ev M_L_law 929 [some (.ref x0), some (.ref x1), some (.ref x2), some (.int x3)] [.int y240] h _
        refine gi_EvN 5 (pc' := 934) (lv' := [some (.ref x0), some (.ref x1), some (.ref x2), some (.int x3)]) (st' := [.int (x3 + 1), .ref x0, .ref x2, .int y240]) (h' := h) rfl ?_
        obtain ⟨y242, qy242, hf⟩ := gi_bind hf
        refine gi_EvAi rfl qy242 ?_
        by_cases c244 : gi_is h x2 6 = true
        rotate_left
        · rw [if_neg c244] at hf; cases hf
        rw [if_pos c244] at hf
        obtain ⟨y243, qy243, hf⟩ := gi_bind hf
        refine gi_EvCV rfl rfl c244 rfl rfl (e_X6_pass h _ _ _ qy243) ?_
        show gi_Ev M_L_law 938 [some (.ref x0), some (.ref x1), some (.ref x2), some (.int x3)] [.int y243.1, .int y240] y243.2 _
        refine gi_Ev_ieq rfl (fun c245 => ?_) (fun c245 => ?_)
        · rw [if_pos c245] at hf
          refine gi_EvN 2 (pc' := 18) (lv' := [some (.ref x0), some (.ref x1), some (.ref x2), some (.int (x3 + 6))]) (st' := []) (h' := y243.2) rfl ?_
          exact ih  _ _  _  _  _ _ hf
        · rw [if_neg c245] at hf
          refine gi_EvN 1 (pc' := 942) (lv' := [some (.ref x0), some (.ref x1), some (.ref x2), some (.int x3)]) (st' := [.int 0]) (h' := y243.2) rfl ?_
          cases hf
          exact gi_EvR rfl rfl
      rw [if_neg c238] at hf
      by_cases c246 : (y3 &&& 31) = 26
      · rw [if_pos c246] at hf
        refine gi_EvTs (t := 943) rfl (gi_sw_at c246 (by decide)) ?_
        refine gi_EvN 5 (pc' := 948) (lv' := [some (.ref x0), some (.ref x1), some (.ref x2), some (.int x3)]) (st' := [.int (x3 + 1), .ref x0, .ref x1]) (h' := h) rfl ?_
        obtain ⟨y247, qy247, hf⟩ := gi_bind hf
        refine gi_EvAi rfl qy247 ?_
        refine gi_EvN 4 (pc' := 953) (lv' := [some (.ref x0), some (.ref x1), some (.ref x2), some (.int x3)]) (st' := [.int (x3 + 2), .ref x0, .int y247, .ref x1]) (h' := h) rfl ?_
        obtain ⟨y248, qy248, hf⟩ := gi_bind hf
        refine gi_EvAi rfl qy248 ?_
        refine gi_EvN 4 (pc' := 958) (lv' := [some (.ref x0), some (.ref x1), some (.ref x2), some (.int x3)]) (st' := [.int (x3 + 3), .ref x0, .int y248, .int y247, .ref x1]) (h' := h) rfl ?_
        obtain ⟨y249, qy249, hf⟩ := gi_bind hf
        refine gi_EvAi rfl qy249 ?_
        refine gi_EvN 4 (pc' := 963) (lv' := [some (.ref x0), some (.ref x1), some (.ref x2), some (.int x3)]) (st' := [.int (x3 + 4), .ref x0, .int y249, .int y248, .int y247, .ref x1]) (h' := h) rfl ?_
        obtain ⟨y250, qy250, hf⟩ := gi_bind hf
        refine gi_EvAi rfl qy250 ?_
        by_cases c252 : gi_is h x1 5 = true
        rotate_left
        · rw [if_neg c252] at hf; cases hf
        rw [if_pos c252] at hf
        obtain ⟨y251, qy251, hf⟩ := gi_bind hf
        refine gi_EvCV rfl rfl c252 rfl rfl (e_X5_bets h _ _ _ _ _ _ qy251) ?_
        show gi_Ev M_L_law 967 [some (.ref x0), some (.ref x1), some (.ref x2), some (.int x3)] [.long y251] h _
        refine gi_EvN 5 (pc' := 972) (lv' := [some (.ref x0), some (.ref x1), some (.ref x2), some (.int x3)]) (st' := [.int (x3 + 1), .ref x0, .ref x2, .long y251]) (h' := h) rfl ?_
        obtain ⟨y253, qy253, hf⟩ := gi_bind hf
        refine gi_EvAi rfl qy253 ?_
        refine gi_EvN 4 (pc' := 977) (lv' := [some (.ref x0), some (.ref x1), some (.ref x2), some (.int x3)]) (st' := [.int (x3 + 2), .ref x0, .int y253, .ref x2, .long y251]) (h' := h) rfl ?_
        obtain ⟨y254, qy254, hf⟩ := gi_bind hf
        refine gi_EvAi rfl qy254 ?_
        refine gi_EvN 4 (pc' := 982) (lv' := [some (.ref x0), some (.ref x1), some (.ref x2), some (.int x3)]) (st' := [.int (x3 + 3), .ref x0, .int y254, .int y253, .ref x2, .long y251]) (h' := h) rfl ?_
        obtain ⟨y255, qy255, hf⟩ := gi_bind hf
        refine gi_EvAi rfl qy255 ?_
        refine gi_EvN 4 (pc' := 987) (lv' := [some (.ref x0), some (.ref x1), some (.ref x2), some (.int x3)]) (st' := [.int (x3 + 4), .ref x0, .int y255, .int y254, .int y253, .ref x2, .long y251]) (h' := h) rfl ?_
        obtain ⟨y256, qy256, hf⟩ := gi_bind hf
        refine gi_EvAi rfl qy256 ?_
        by_cases c258 : gi_is h x2 6 = true
        rotate_left
        · rw [if_neg c258] at hf; cases hf
        rw [if_pos c258] at hf
        obtain ⟨y257, qy257, hf⟩ := gi_bind hf
        refine gi_EvCV rfl rfl c258 rfl rfl (e_X6_bets h _ _ _ _ _ _ qy257) ?_
        show gi_Ev M_L_law 991 [some (.ref x0), some (.ref x1), some (.ref x2), some (.int x3)] [.long y257, .long y251] h _
        refine gi_EvN 1 (pc' := 992) (lv' := [some (.ref x0), some (.ref x1), some (.ref x2), some (.int x3)]) (st' := [.int (lg_cmp y251 y257)]) (h' := h) rfl ?_
        refine gi_Ev_eq rfl (fun c259 => ?_) (fun c259 => ?_)
        · rw [if_pos c259] at hf
          refine gi_EvN 2 (pc' := 18) (lv' := [some (.ref x0), some (.ref x1), some (.ref x2), some (.int (x3 + 6))]) (st' := []) (h' := h) rfl ?_
          exact ih  _ _  _  _  _ _ hf
        · rw [if_neg c259] at hf
          refine gi_EvN 1 (pc' := 996) (lv' := [some (.ref x0), some (.ref x1), some (.ref x2), some (.int x3)]) (st' := [.int 0]) (h' := h) rfl ?_
          cases hf
          exact gi_EvR rfl rfl
      rw [if_neg c246] at hf
      by_cases c260 : (y3 &&& 31) = 27
      · rw [if_pos c260] at hf
        refine gi_EvTs (t := 997) rfl (gi_sw_at c260 (by decide)) ?_
        refine gi_EvN 5 (pc' := 1002) (lv' := [some (.ref x0), some (.ref x1), some (.ref x2), some (.int x3)]) (st' := [.int (x3 + 1), .ref x0, .ref x1]) (h' := h) rfl ?_
        obtain ⟨y261, qy261, hf⟩ := gi_bind hf
        refine gi_EvAi rfl qy261 ?_
        refine gi_EvN 4 (pc' := 1007) (lv' := [some (.ref x0), some (.ref x1), some (.ref x2), some (.int x3)]) (st' := [.int (x3 + 2), .ref x0, .int y261, .ref x1]) (h' := h) rfl ?_
        obtain ⟨y262, qy262, hf⟩ := gi_bind hf
        refine gi_EvAi rfl qy262 ?_
        refine gi_EvN 4 (pc' := 1012) (lv' := [some (.ref x0), some (.ref x1), some (.ref x2), some (.int x3)]) (st' := [.int (x3 + 3), .ref x0, .int y262, .int y261, .ref x1]) (h' := h) rfl ?_
        obtain ⟨y263, qy263, hf⟩ := gi_bind hf
        refine gi_EvAi rfl qy263 ?_
        by_cases c265 : gi_is h x1 5 = true
        rotate_left
        · rw [if_neg c265] at hf; cases hf
        rw [if_pos c265] at hf
        obtain ⟨y264, qy264, hf⟩ := gi_bind hf
        refine gi_EvCV rfl rfl c265 rfl rfl (e_X5_year h _ _ _ _ _ qy264) ?_
        show gi_Ev M_L_law 1016 [some (.ref x0), some (.ref x1), some (.ref x2), some (.int x3)] [.int y264.1] y264.2 _
        refine gi_EvN 5 (pc' := 1021) (lv' := [some (.ref x0), some (.ref x1), some (.ref x2), some (.int x3)]) (st' := [.int (x3 + 1), .ref x0, .ref x2, .int y264.1]) (h' := y264.2) rfl ?_
        obtain ⟨y266, qy266, hf⟩ := gi_bind hf
        refine gi_EvAi rfl qy266 ?_
        refine gi_EvN 4 (pc' := 1026) (lv' := [some (.ref x0), some (.ref x1), some (.ref x2), some (.int x3)]) (st' := [.int (x3 + 2), .ref x0, .int y266, .ref x2, .int y264.1]) (h' := y264.2) rfl ?_
        obtain ⟨y267, qy267, hf⟩ := gi_bind hf
        refine gi_EvAi rfl qy267 ?_
        refine gi_EvN 4 (pc' := 1031) (lv' := [some (.ref x0), some (.ref x1), some (.ref x2), some (.int x3)]) (st' := [.int (x3 + 3), .ref x0, .int y267, .int y266, .ref x2, .int y264.1]) (h' := y264.2) rfl ?_
        obtain ⟨y268, qy268, hf⟩ := gi_bind hf
        refine gi_EvAi rfl qy268 ?_
        by_cases c270 : gi_is y264.2 x2 6 = true
        rotate_left
        · rw [if_neg c270] at hf; cases hf
        rw [if_pos c270] at hf
        obtain ⟨y269, qy269, hf⟩ := gi_bind hf
        refine gi_EvCV rfl rfl c270 rfl rfl (e_X6_year y264.2 _ _ _ _ _ qy269) ?_
        show gi_Ev M_L_law 1035 [some (.ref x0), some (.ref x1), some (.ref x2), some (.int x3)] [.int y269.1, .int y264.1] y269.2 _
        refine gi_Ev_ieq rfl (fun c271 => ?_) (fun c271 => ?_)
        · rw [if_pos c271] at hf
          refine gi_EvN 2 (pc' := 18) (lv' := [some (.ref x0), some (.ref x1), some (.ref x2), some (.int (x3 + 6))]) (st' := []) (h' := y269.2) rfl ?_
          exact ih  _ _  _  _  _ _ hf
        · rw [if_neg c271] at hf
          refine gi_EvN 1 (pc' := 1039) (lv' := [some (.ref x0), some (.ref x1), some (.ref x2), some (.int x3)]) (st' := [.int 0]) (h' := y269.2) rfl ?_
          cases hf
          exact gi_EvR rfl rfl
      rw [if_neg c260] at hf
      by_cases c272 : (y3 &&& 31) = 28
      · rw [if_pos c272] at hf
        refine gi_EvTs (t := 1040) rfl (gi_sw_at c272 (by decide)) ?_
        refine gi_EvN 5 (pc' := 1045) (lv' := [some (.ref x0), some (.ref x1), some (.ref x2), some (.int x3)]) (st' := [.int (x3 + 1), .ref x0, .ref x1]) (h' := h) rfl ?_
        obtain ⟨y273, qy273, hf⟩ := gi_bind hf
        refine gi_EvAi rfl qy273 ?_
        by_cases c275 : gi_is h x1 5 = true
        rotate_left
        · rw [if_neg c275] at hf; cases hf
        rw [if_pos c275] at hf
        obtain ⟨y274, qy274, hf⟩ := gi_bind hf
        refine gi_EvCV rfl rfl c275 rfl rfl (e_X5_image h _ _ _ qy274) ?_
        show gi_Ev M_L_law 1049 [some (.ref x0), some (.ref x1), some (.ref x2), some (.int x3)] [.int y274.1] y274.2 _
        refine gi_EvN 5 (pc' := 1054) (lv' := [some (.ref x0), some (.ref x1), some (.ref x2), some (.int x3)]) (st' := [.int (x3 + 1), .ref x0, .ref x2, .int y274.1]) (h' := y274.2) rfl ?_
        obtain ⟨y276, qy276, hf⟩ := gi_bind hf
        refine gi_EvAi rfl qy276 ?_
        by_cases c278 : gi_is y274.2 x2 6 = true
        rotate_left
        · rw [if_neg c278] at hf; cases hf
        rw [if_pos c278] at hf
        obtain ⟨y277, qy277, hf⟩ := gi_bind hf
        refine gi_EvCV rfl rfl c278 rfl rfl (e_X6_image y274.2 _ _ _ qy277) ?_
        show gi_Ev M_L_law 1058 [some (.ref x0), some (.ref x1), some (.ref x2), some (.int x3)] [.int y277.1, .int y274.1] y277.2 _
        refine gi_Ev_ieq rfl (fun c279 => ?_) (fun c279 => ?_)
        · rw [if_pos c279] at hf
          refine gi_EvN 2 (pc' := 18) (lv' := [some (.ref x0), some (.ref x1), some (.ref x2), some (.int (x3 + 6))]) (st' := []) (h' := y277.2) rfl ?_
          exact ih  _ _  _  _  _ _ hf
        · rw [if_neg c279] at hf
          refine gi_EvN 1 (pc' := 1062) (lv' := [some (.ref x0), some (.ref x1), some (.ref x2), some (.int x3)]) (st' := [.int 0]) (h' := y277.2) rfl ?_
          cases hf
          exact gi_EvR rfl rfl
      rw [if_neg c272] at hf
      by_cases c280 : (y3 &&& 31) = 29
      · rw [if_pos c280] at hf
        refine gi_EvTs (t := 1063) rfl (gi_sw_at c280 (by decide)) ?_
        refine gi_EvN 5 (pc' := 1068) (lv' := [some (.ref x0), some (.ref x1), some (.ref x2), some (.int x3)]) (st' := [.int (x3 + 1), .ref x0, .ref x1]) (h' := h) rfl ?_
        obtain ⟨y281, qy281, hf⟩ := gi_bind hf
        refine gi_EvAi rfl qy281 ?_
        by_cases c283 : gi_is h x1 5 = true
        rotate_left
        · rw [if_neg c283] at hf; cases hf
        rw [if_pos c283] at hf
        obtain ⟨y282, qy282, hf⟩ := gi_bind hf
        refine gi_EvCV rfl rfl c283 rfl rfl (e_X5_restore h _ _ _ qy282) ?_
        show gi_Ev M_L_law 1072 [some (.ref x0), some (.ref x1), some (.ref x2), some (.int x3)] [.int y282.1] y282.2 _
        refine gi_EvN 5 (pc' := 1077) (lv' := [some (.ref x0), some (.ref x1), some (.ref x2), some (.int x3)]) (st' := [.int (x3 + 1), .ref x0, .ref x2, .int y282.1]) (h' := y282.2) rfl ?_
        obtain ⟨y284, qy284, hf⟩ := gi_bind hf
        refine gi_EvAi rfl qy284 ?_
        by_cases c286 : gi_is y282.2 x2 6 = true
        rotate_left
        · rw [if_neg c286] at hf; cases hf
        rw [if_pos c286] at hf
        obtain ⟨y285, qy285, hf⟩ := gi_bind hf
        refine gi_EvCV rfl rfl c286 rfl rfl (e_X6_restore y282.2 _ _ _ qy285) ?_
        show gi_Ev M_L_law 1081 [some (.ref x0), some (.ref x1), some (.ref x2), some (.int x3)] [.int y285.1, .int y282.1] y285.2 _
        refine gi_Ev_ieq rfl (fun c287 => ?_) (fun c287 => ?_)
        · rw [if_pos c287] at hf
          refine gi_EvN 2 (pc' := 18) (lv' := [some (.ref x0), some (.ref x1), some (.ref x2), some (.int (x3 + 6))]) (st' := []) (h' := y285.2) rfl ?_
          exact ih  _ _  _  _  _ _ hf
        · rw [if_neg c287] at hf
          refine gi_EvN 1 (pc' := 1085) (lv' := [some (.ref x0), some (.ref x1), some (.ref x2), some (.int x3)]) (st' := [.int 0]) (h' := y285.2) rfl ?_
          cases hf
          exact gi_EvR rfl rfl
      rw [if_neg c280] at hf
      by_cases c288 : (y3 &&& 31) = 30
      · rw [if_pos c288] at hf
        refine gi_EvTs (t := 1086) rfl (gi_sw_at c288 (by decide)) ?_
        refine gi_EvN 5 (pc' := 1091) (lv' := [some (.ref x0), some (.ref x1), some (.ref x2), some (.int x3)]) (st' := [.int (x3 + 1), .ref x0, .ref x1]) (h' := h) rfl ?_
        obtain ⟨y289, qy289, hf⟩ := gi_bind hf
        refine gi_EvAi rfl qy289 ?_
        by_cases c291 : gi_is h x1 5 = true
        rotate_left
        · rw [if_neg c291] at hf; cases hf
        rw [if_pos c291] at hf
        obtain ⟨y290, qy290, hf⟩ := gi_bind hf
        refine gi_EvCV rfl rfl c291 rfl rfl (e_X5_told h _ _ _ qy290) ?_
        show gi_Ev M_L_law 1095 [some (.ref x0), some (.ref x1), some (.ref x2), some (.int x3)] [.int y290] h _
        refine gi_EvN 5 (pc' := 1100) (lv' := [some (.ref x0), some (.ref x1), some (.ref x2), some (.int x3)]) (st' := [.int (x3 + 1), .ref x0, .ref x2, .int y290]) (h' := h) rfl ?_
        obtain ⟨y292, qy292, hf⟩ := gi_bind hf
        refine gi_EvAi rfl qy292 ?_
        by_cases c294 : gi_is h x2 6 = true
        rotate_left
        · rw [if_neg c294] at hf; cases hf
        rw [if_pos c294] at hf
        obtain ⟨y293, qy293, hf⟩ := gi_bind hf
        refine gi_EvCV rfl rfl c294 rfl rfl (e_X6_told h _ _ _ qy293) ?_
        show gi_Ev M_L_law 1104 [some (.ref x0), some (.ref x1), some (.ref x2), some (.int x3)] [.int y293, .int y290] h _
        refine gi_Ev_ieq rfl (fun c295 => ?_) (fun c295 => ?_)
        · rw [if_pos c295] at hf
          refine gi_EvN 2 (pc' := 18) (lv' := [some (.ref x0), some (.ref x1), some (.ref x2), some (.int (x3 + 6))]) (st' := []) (h' := h) rfl ?_
          exact ih  _ _  _  _  _ _ hf
        · rw [if_neg c295] at hf
          refine gi_EvN 1 (pc' := 1108) (lv' := [some (.ref x0), some (.ref x1), some (.ref x2), some (.int x3)]) (st' := [.int 0]) (h' := h) rfl ?_
          cases hf
          exact gi_EvR rfl rfl
      rw [if_neg c288] at hf
      have ic4 := lv_neT c4 (show (0 : Int32).toInt = 0 by decide)
      have ic14 := lv_neT c14 (show (1 : Int32).toInt = 1 by decide)
      have ic22 := lv_neT c22 (show (2 : Int32).toInt = 2 by decide)
      have ic32 := lv_neT c32 (show (3 : Int32).toInt = 3 by decide)
      have ic40 := lv_neT c40 (show (4 : Int32).toInt = 4 by decide)
      have ic48 := lv_neT c48 (show (5 : Int32).toInt = 5 by decide)
      have ic54 := lv_neT c54 (show (6 : Int32).toInt = 6 by decide)
      have ic60 := lv_neT c60 (show (7 : Int32).toInt = 7 by decide)
      have ic68 := lv_neT c68 (show (8 : Int32).toInt = 8 by decide)
      have ic74 := lv_neT c74 (show (9 : Int32).toInt = 9 by decide)
      have ic82 := lv_neT c82 (show (10 : Int32).toInt = 10 by decide)
      have ic92 := lv_neT c92 (show (11 : Int32).toInt = 11 by decide)
      have ic104 := lv_neT c104 (show (12 : Int32).toInt = 12 by decide)
      have ic116 := lv_neT c116 (show (13 : Int32).toInt = 13 by decide)
      have ic126 := lv_neT c126 (show (14 : Int32).toInt = 14 by decide)
      have ic134 := lv_neT c134 (show (15 : Int32).toInt = 15 by decide)
      have ic150 := lv_neT c150 (show (16 : Int32).toInt = 16 by decide)
      have ic164 := lv_neT c164 (show (17 : Int32).toInt = 17 by decide)
      have ic174 := lv_neT c174 (show (18 : Int32).toInt = 18 by decide)
      have ic186 := lv_neT c186 (show (19 : Int32).toInt = 19 by decide)
      have ic198 := lv_neT c198 (show (20 : Int32).toInt = 20 by decide)
      have ic204 := lv_neT c204 (show (21 : Int32).toInt = 21 by decide)
      have ic216 := lv_neT c216 (show (22 : Int32).toInt = 22 by decide)
      have ic222 := lv_neT c222 (show (23 : Int32).toInt = 23 by decide)
      have ic230 := lv_neT c230 (show (24 : Int32).toInt = 24 by decide)
      have ic238 := lv_neT c238 (show (25 : Int32).toInt = 25 by decide)
      have ic246 := lv_neT c246 (show (26 : Int32).toInt = 26 by decide)
      have ic260 := lv_neT c260 (show (27 : Int32).toInt = 27 by decide)
      have ic272 := lv_neT c272 (show (28 : Int32).toInt = 28 by decide)
      have ic280 := lv_neT c280 (show (29 : Int32).toInt = 29 by decide)
      have ic288 := lv_neT c288 (show (30 : Int32).toInt = 30 by decide)
      refine gi_EvTs (t := 1109) rfl (gi_sw_out (by omega) (by decide)) ?_
      refine gi_EvN 2 (pc' := 18) (lv' := [some (.ref x0), some (.ref x1), some (.ref x2), some (.int (x3 + 6))]) (st' := []) (h' := h) rfl ?_
      exact ih  _ _  _  _  _ _ hf
def f_L_law (h : gi_H) (x0 : Nat) : Option (Int32 × gi_H) :=
  (gi_new h (.inr (5, gi_dfX5))).bind fun h1 => (f_X5_init h1 (List.length h)).bind fun h2 => (gi_new h2 (.inr (6, gi_dfX6))).bind fun h3 => (f_X6_init h3 (List.length h2)).bind fun h4 => f_L_law_18 gi_F h4 x0 (List.length h) (List.length h2) 0
set_option maxRecDepth 20000 in
set_option maxHeartbeats 2000000 in
theorem e_L_law (h : gi_H) (x0 : Nat) (r : (Int32 × gi_H)) (hf : f_L_law h x0 = some r) : gi_Ev M_L_law 0 [some (.ref x0), none, none, none] [] h (some (.int r.1), r.2) := by
  unfold f_L_law at hf
  obtain ⟨h1, qh1, hf⟩ := gi_bind hf
  refine gi_EvNew rfl qh1 ?_
  refine gi_EvN 1 (pc' := 4) (lv' := [some (.ref x0), none, none, none]) (st' := [.ref (List.length h), .ref (List.length h)]) (h' := h1) rfl ?_
  obtain ⟨h2, qh2, hf⟩ := gi_bind hf
  refine gi_EvCI rfl rfl rfl rfl rfl (e_X5_init h1 _ _ qh2) ?_
  show gi_Ev M_L_law 7 [some (.ref x0), none, none, none] [.ref (List.length h)] h2 _
  refine gi_EvN 1 (pc' := 8) (lv' := [some (.ref x0), some (.ref (List.length h)), none, none]) (st' := []) (h' := h2) rfl ?_
  obtain ⟨h3, qh3, hf⟩ := gi_bind hf
  refine gi_EvNew rfl qh3 ?_
  refine gi_EvN 1 (pc' := 12) (lv' := [some (.ref x0), some (.ref (List.length h)), none, none]) (st' := [.ref (List.length h2), .ref (List.length h2)]) (h' := h3) rfl ?_
  obtain ⟨h4, qh4, hf⟩ := gi_bind hf
  refine gi_EvCI rfl rfl rfl rfl rfl (e_X6_init h3 _ _ qh4) ?_
  show gi_Ev M_L_law 15 [some (.ref x0), some (.ref (List.length h)), none, none] [.ref (List.length h2)] h4 _
  refine gi_EvN 3 (pc' := 18) (lv' := [some (.ref x0), some (.ref (List.length h)), some (.ref (List.length h2)), some (.int 0)]) (st' := []) (h' := h4) rfl ?_
  exact e_L_law_18 gi_F h4 _ _ _ _ _ hf
