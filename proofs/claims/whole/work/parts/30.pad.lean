/-! THE PAD: which sign can stand behind which -/
def stp : Nat → Nat → Nat
  | 0, c => if c = 46 then 0 else if 65 ≤ c ∧ c ≤ 70 then 5 else if 97 ≤ c ∧ c ≤ 100 then 1 else 6
  | 1, c => if 65 ≤ c ∧ c ≤ 70 then 2 else if 48 ≤ c ∧ c ≤ 57 then 4 else 6
  | 2, c => if 49 ≤ c ∧ c ≤ 57 then 3 else 6
  | 3, c => if 49 ≤ c ∧ c ≤ 57 then 0 else 6
  | 4, c => if 97 ≤ c ∧ c ≤ 100 then 0 else 6
  | 5, c => if c = 43 ∨ c = 45 ∨ c = 120 then 0 else 6
  | _, _ => 6
theorem stp_d : ∀ s, s < 6 → ∀ c, c < 127 → f_X3_stepBehind (nI s) (nI c) = some (if stp s c = 6 then -1 else nI (stp s c)) := by decide +kernel
theorem stp_le : ∀ s, s < 6 → ∀ c, c < 127 → stp s c ≤ 6 := by decide +kernel
theorem sg_life : ∀ c, c < 127 → f_X6_isLifeSign (nI c) = some (if 65 ≤ c ∧ c ≤ 70 then 1 else 0) := by decide +kernel
theorem sg_buyer : ∀ c, c < 127 → f_X6_isBuyerSign (nI c) = some (if 97 ≤ c ∧ c ≤ 100 then 1 else 0) := by decide +kernel
theorem sg_dig : ∀ c, c < 127 → f_X6_in (nI c) 48 57 = some (if 48 ≤ c ∧ c ≤ 57 then 1 else 0) := by decide +kernel
theorem sg_dig1 : ∀ c, c < 127 → f_X6_in (nI c) 49 57 = some (if 49 ≤ c ∧ c ≤ 57 then 1 else 0) := by decide +kernel
/-- the place of the first fault, m signs before the end -/
def flt (P : Nat → Nat) : Nat → Nat → Nat → Int32
  | 0, s, i => if s = 0 then -6 else nI i
  | m + 1, s, i => if stp s (P i) = 6 then nI i else flt P m (stp s (P i)) (i + 1)
def pf (np : Nat) : List Value := [.int (nI np), .ref 24]
section PAD
variable {h : gi_H} {P : Nat → Nat} {np : Nat}
theorem d_sign (G : go h 23 3 (pf np)) (A : ga h 24 60 P) {i : Nat} (hi : i < 60) : f_X3_signAt h 23 (nI i) = some (nI (P i)) := by
  unfold f_X3_signAt
  rw [in_nI 0 59 rfl rfl (by decide) (Nat.zero_le i) (show i ≤ 59 by omega)]
  simp only [Option.bind_some]
  rw [if_neg i1_ne0, go_fR G (k := 1) (x := 24) rfl]
  simp only [Option.bind_some]
  rw [ga_rd A hi (by decide)]
  rfl
theorem d_sign' (G : go h 23 3 (pf np)) (A : ga h 24 60 P) (i : Nat) (hi : i < 100) : f_X3_signAt h 23 (nI i) = some (if i < 60 then nI (P i) else 0) := by
  by_cases c : i < 60
  · rw [if_pos c, d_sign G A c]
  · rw [if_neg c]
    unfold f_X3_signAt
    rw [w_out (l := 0) (u := 59) (Or.inr (show nI 59 < nI i by rw [nI_ltI (by decide) (by omega)]; omega))]
    rfl
theorem n_m6 {a : Nat} (ha : a < 2 ^ 31) : ¬ nI a = -6 := by
  intro z
  have h1 := nI_pos ha
  rw [z] at h1
  exact h1 (by decide)
theorem n_m1 {a : Nat} (ha : a < 2 ^ 31) : ¬ nI a = -1 := by
  intro z
  have h1 := nI_pos ha
  rw [z] at h1
  exact h1 (by decide)
theorem d_flt (G : go h 23 3 (pf np)) (A : ga h 24 60 P) (hP : ∀ i, i < 60 → P i < 127) (hnp : np ≤ 60) : ∀ (n m s i : Nat), i + m = np → m < n → s < 6 → f_X3_firstFault_4 h n 23 (nI s) (nI i) = some (flt P m s i) := by
  intro n
  induction n with
  | zero => intro m s i _ h; omega
  | succ n ih =>
    intro m s i hi hm hs
    unfold f_X3_firstFault_4
    rw [go_fI G (k := 0) (x := nI np) rfl]
    simp only [Option.bind_some]
    rw [n_ifle (nI i) i rfl (by omega) (by omega)]
    cases m with
    | zero =>
      rw [if_pos (by omega)]
      unfold f_X3_firstFault_35 flt
      rw [n_if0 (by omega), go_fI G (k := 0) (x := nI np) rfl]
      simp only [Option.bind_some]
      by_cases c : s = 0
      · rw [if_pos c, if_pos c]
      · rw [if_neg c, if_neg c, show np = i by omega]
    | succ m =>
      rw [if_neg (by omega), if_pos (go_is G), d_sign G A (by omega)]
      simp only [Option.bind_some]
      have hPi := hP i (by omega)
      have hle := stp_le s hs (P i) hPi
      rw [stp_d s hs _ hPi]
      simp only [Option.bind_some]
      unfold flt
      by_cases c : stp s (P i) = 6
      · rw [if_pos c, if_pos c, if_pos rfl]
      · rw [if_neg c, if_neg c, if_neg (n_m1 (by omega)), nI_1, ih m _ (i + 1) (by omega) (by omega) (by omega)]
theorem d_fault (G : go h 23 3 (pf np)) (A : ga h 24 60 P) (hP : ∀ i, i < 60 → P i < 127) (hnp : np ≤ 60) : f_X3_firstFault h 23 = some (flt P np 0 0) := d_flt G A hP hnp gi_F np 0 0 (by omega) (by unfold gi_F; omega) (by omega)
variable {ns : Nat} {pd : Int32} {sh : Bool} {rs ac sa : Int32} {up : Int64}
theorem m_flt (G : go h 31 6 (mf ns np pd sh rs ac sa up)) (A : ga h 35 60 P) (hP : ∀ i, i < 60 → P i < 127) (hnp : np ≤ 60) : ∀ (n m s i : Nat), i + m = np → m < n → s < 6 → f_X6_faultOf_4 h n 31 (nI s) (nI i) = some (flt P m s i) := by
  intro n
  induction n with
  | zero => intro m s i _ h; omega
  | succ n ih =>
    intro m s i hi hm hs
    obtain ⟨r, r0, r1, r2, r3, r4, r5, -⟩ := mf_rd G
    unfold f_X6_faultOf_4
    rw [r4]
    simp only [Option.bind_some]
    rw [n_ifle (nI i) i rfl (by omega) (by omega)]
    cases m with
    | zero =>
      rw [if_pos (by omega)]
      unfold f_X6_faultOf_218 flt
      rw [n_if0 (by omega), r4]
      simp only [Option.bind_some]
      by_cases c : s = 0
      · rw [if_pos c, if_pos c]
      · rw [if_neg c, if_neg c, show np = i by omega]
    | succ m =>
      rw [if_neg (by omega), r5]
      simp only [Option.bind_some]
      rw [ga_rd A (by omega) (by decide)]
      simp only [Option.bind_some]
      have hPi := hP i (by omega)
      have hI : ∀ t, t < 6 → f_X6_faultOf_4 h n 31 (nI t) (nI (i + 1)) = some (flt P m t (i + 1)) := fun t ht => ih m t (i + 1) (by omega) (by omega) ht
      have hI0 := hI 0 (by omega)
      have hI1 := hI 1 (by omega)
      have hI2 := hI 2 (by omega)
      have hI3 := hI 3 (by omega)
      have hI4 := hI 4 (by omega)
      have hI5 := hI 5 (by omega)
      change f_X6_faultOf_4 h n 31 0 (nI (i + 1)) = _ at hI0
      change f_X6_faultOf_4 h n 31 1 (nI (i + 1)) = _ at hI1
      change f_X6_faultOf_4 h n 31 2 (nI (i + 1)) = _ at hI2
      change f_X6_faultOf_4 h n 31 3 (nI (i + 1)) = _ at hI3
      change f_X6_faultOf_4 h n 31 4 (nI (i + 1)) = _ at hI4
      change f_X6_faultOf_4 h n 31 5 (nI (i + 1)) = _ at hI5
      show _ = some (if stp s (P i) = 6 then nI i else flt P m (stp s (P i)) (i + 1))
      generalize P i = c at hPi ⊢
      simp only [f_X6_faultOf_46, f_X6_faultOf_51, f_X6_faultOf_76, f_X6_faultOf_202, f_X6_faultOf_104, f_X6_faultOf_109, f_X6_faultOf_123, f_X6_faultOf_138, f_X6_faultOf_158, f_X6_faultOf_195, f_X6_faultOf_200, sg_buyer c hPi, sg_life c hPi, sg_dig c hPi, sg_dig1 c hPi, Option.bind_some, nI_1]
      rcases (show s = 0 ∨ s = 1 ∨ s = 2 ∨ s = 3 ∨ s = 4 ∨ s = 5 by omega) with rfl | rfl | rfl | rfl | rfl | rfl
      · rw [if_pos (show nI 0 = 0 from rfl)]
        have hs0 : stp 0 c = if c = 46 then 0 else if 65 ≤ c ∧ c ≤ 70 then 5 else if 97 ≤ c ∧ c ≤ 100 then 1 else 6 := rfl
        rw [hs0]
        by_cases cb : 97 ≤ c ∧ c ≤ 100
        · have cl : ¬ (65 ≤ c ∧ c ≤ 70) := by omega
          have cd : ¬ c = 46 := by omega
          simp [cb, cl, cd, hI1]
        · by_cases cl : 65 ≤ c ∧ c ≤ 70
          · have cd : ¬ c = 46 := by omega
            simp [cb, cl, cd, hI5]
          · rw [n_ifc 46 46 rfl (by omega) (by decide)]
            by_cases cd : c = 46
            · simp [cb, cl, cd, hI0]
            · simp [cb, cl, cd]
      · rw [if_neg (show ¬ nI 1 = 0 by decide), if_pos (show nI 1 = 1 from rfl)]
        have hs0 : stp 1 c = if 65 ≤ c ∧ c ≤ 70 then 2 else if 48 ≤ c ∧ c ≤ 57 then 4 else 6 := rfl
        rw [hs0]
        by_cases cl : 65 ≤ c ∧ c ≤ 70
        · simp [cl, hI2]
        · by_cases cd : 48 ≤ c ∧ c ≤ 57
          · simp [cl, cd, hI4]
          · simp [cl, cd]
      · rw [if_neg (show ¬ nI 2 = 0 by decide), if_neg (show ¬ nI 2 = 1 by decide), if_pos (show nI 2 = 2 from rfl)]
        have hs0 : stp 2 c = if 49 ≤ c ∧ c ≤ 57 then 3 else 6 := rfl
        rw [hs0]
        by_cases cl : 49 ≤ c ∧ c ≤ 57
        · simp [cl, hI3, show nI 2 = 2 from rfl]
        · simp [cl]
      · rw [if_neg (show ¬ nI 3 = 0 by decide), if_neg (show ¬ nI 3 = 1 by decide), if_neg (show ¬ nI 3 = 2 by decide), if_pos (show nI 3 = 3 from rfl)]
        have hs0 : stp 3 c = if 49 ≤ c ∧ c ≤ 57 then 0 else 6 := rfl
        rw [hs0]
        by_cases cl : 49 ≤ c ∧ c ≤ 57
        · simp [cl, hI0, show ¬ nI 3 = 2 by decide]
        · simp [cl]
      · rw [if_neg (show ¬ nI 4 = 0 by decide), if_neg (show ¬ nI 4 = 1 by decide), if_neg (show ¬ nI 4 = 2 by decide), if_neg (show ¬ nI 4 = 3 by decide), if_pos (show nI 4 = 4 from rfl)]
        have hs0 : stp 4 c = if 97 ≤ c ∧ c ≤ 100 then 0 else 6 := rfl
        rw [hs0]
        by_cases cl : 97 ≤ c ∧ c ≤ 100
        · simp [cl, hI0]
        · simp [cl]
      · rw [if_neg (show ¬ nI 5 = 0 by decide), if_neg (show ¬ nI 5 = 1 by decide), if_neg (show ¬ nI 5 = 2 by decide), if_neg (show ¬ nI 5 = 3 by decide), if_neg (show ¬ nI 5 = 4 by decide)]
        have hs0 : stp 5 c = if c = 43 ∨ c = 45 ∨ c = 120 then 0 else 6 := rfl
        rw [hs0, n_ifc 43 43 rfl (by omega) (by decide), n_ifc 45 45 rfl (by omega) (by decide), n_ifc 120 120 rfl (by omega) (by decide)]
        by_cases c1 : c = 43
        · simp [c1, hI0]
        · by_cases c2 : c = 45
          · simp [c2, hI0]
          · by_cases c3 : c = 120
            · simp [c3, hI0]
            · simp [c1, c2, c3]
theorem m_fault (G : go h 31 6 (mf ns np pd sh rs ac sa up)) (A : ga h 35 60 P) (hP : ∀ i, i < 60 → P i < 127) (hnp : np ≤ 60) : f_X6_faultOf h 31 = some (flt P np 0 0) := m_flt G A hP hnp gi_F np 0 0 (by omega) (by unfold gi_F; omega) (by omega)
end PAD
