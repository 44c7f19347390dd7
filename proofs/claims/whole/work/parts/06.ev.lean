/-! EVALUATION: the interpreter comes to an end with r -/
theorem gi_mono {pr : Nat → gi_M} {df : Nat → List Value} : ∀ (n : Nat) (M : gi_M) (pc : Nat) (lv : gi_Lv) (st : List Value) (h : gi_H) (r : Option Value × gi_H), gi_ex pr df n M pc lv st h = some r → gi_ex pr df (n + 1) M pc lv st h = some r := by
  intro n
  induction n with
  | zero => intro M pc lv st h r e; simp [gi_ex] at e
  | succ n ih =>
    intro M pc lv st h r e
    rw [gi_ex] at e ⊢
    cases h1 : gi_look (gi_tab M) pc with
    | none => rw [h1] at e; cases e
    | some x =>
      rw [h1] at e
      simp only at e ⊢
      cases h2 : gi_go df (gi_ret M) x pc lv st h with
      | none => rw [h2] at e; cases e
      | some o =>
        rw [h2] at e
        match o, e with
        | .inl (pc', lv', st', h'), e => exact ih _ _ _ _ _ _ e
        | .inr (.inl rv), e => exact e
        | .inr (.inr (j, as, rest)), e =>
          simp only at e ⊢
          cases h4 : Nat.ble (gi_en0 as).length (gi_maxL (pr j)) with
          | false => rw [h4] at e; cases e
          | true =>
          rw [h4] at e
          simp only at e ⊢
          cases h3 : gi_ex pr df n (pr j) 0 (gi_en (gi_maxL (pr j)) as) [] h with
          | none => rw [h3] at e; cases e
          | some w =>
            rw [h3] at e
            rw [ih _ _ _ _ _ _ h3]
            exact ih _ _ _ _ _ _ e
theorem gi_mono_le {pr : Nat → gi_M} {df : Nat → List Value} {n m : Nat} (hm : n ≤ m) {M : gi_M} {pc : Nat} {lv : gi_Lv} {st : List Value} {h : gi_H} {r : Option Value × gi_H} (e : gi_ex pr df n M pc lv st h = some r) : gi_ex pr df m M pc lv st h = some r := by
  induction hm with
  | refl => exact e
  | step _ ih => exact gi_mono _ _ _ _ _ _ _ ih
def gi_Ev (M : gi_M) (pc : Nat) (lv : gi_Lv) (st : List Value) (h : gi_H) (r : Option Value × gi_H) : Prop := ∃ n, gi_ex gm gi_df n M pc lv st h = some r
theorem gi_Ev1 {M : gi_M} {pc : Nat} {lv : gi_Lv} {st : List Value} {h : gi_H} {r : Option Value × gi_H} {x : gi_I} {pc' : Nat} {lv' : gi_Lv} {st' : List Value} {h' : gi_H} (h1 : gi_look (gi_tab M) pc = some x) (h2 : gi_go gi_df (gi_ret M) x pc lv st h = gi_k pc' lv' st' h') (e : gi_Ev M pc' lv' st' h' r) : gi_Ev M pc lv st h r := by
  obtain ⟨n, e⟩ := e
  refine ⟨n + 1, ?_⟩
  rw [gi_ex, h1]
  simp only
  rw [h2]
  exact e
theorem gi_EvR {M : gi_M} {pc : Nat} {lv : gi_Lv} {st : List Value} {h : gi_H} {x : gi_I} {v : Option Value} (h1 : gi_look (gi_tab M) pc = some x) (h2 : gi_go gi_df (gi_ret M) x pc lv st h = some (.inr (.inl v))) : gi_Ev M pc lv st h (v, h) := by
  refine ⟨1, ?_⟩
  rw [gi_ex, h1]
  simp only
  rw [h2]
theorem gi_EvC {M : gi_M} {pc : Nat} {lv : gi_Lv} {st : List Value} {h : gi_H} {r : Option Value × gi_H} {x : gi_I} {j : Nat} {as rest : List Value} {w : Option Value} {h' : gi_H} (h1 : gi_look (gi_tab M) pc = some x) (h2 : gi_go gi_df (gi_ret M) x pc lv st h = some (.inr (.inr (j, as, rest)))) (h3 : Nat.ble (gi_en0 as).length (gi_maxL (gm j)) = true) (ec : gi_Ev (gm j) 0 (gi_en (gi_maxL (gm j)) as) [] h (w, h')) (e : gi_Ev M (pc + 3) lv (w.toList ++ rest) h' r) : gi_Ev M pc lv st h r := by
  obtain ⟨n, e⟩ := e
  obtain ⟨m, ec⟩ := ec
  refine ⟨max n m + 1, ?_⟩
  rw [gi_ex, h1]
  simp only
  rw [h2]
  simp only
  rw [h3]
  simp only
  rw [gi_mono_le (Nat.le_max_right n m) ec]
  exact gi_mono_le (Nat.le_max_left n m) e
/-- k instructions that call nothing -/
def gi_run (M : gi_M) : Nat → gi_S → Option gi_S
  | 0, s => some s
  | k + 1, (pc, lv, st, h) => match gi_look (gi_tab M) pc with
    | none => none
    | some r => match gi_go gi_df (gi_ret M) r pc lv st h with
      | some (.inl s') => gi_run M k s'
      | _ => none
theorem gi_EvN (k : Nat) {M : gi_M} {pc : Nat} {lv : gi_Lv} {st : List Value} {h : gi_H} {r : Option Value × gi_H} {pc' : Nat} {lv' : gi_Lv} {st' : List Value} {h' : gi_H} (e1 : gi_run M k (pc, lv, st, h) = some (pc', lv', st', h')) (e : gi_Ev M pc' lv' st' h' r) : gi_Ev M pc lv st h r := by
  induction k generalizing pc lv st h with
  | zero => cases e1; exact e
  | succ k ih =>
    rw [gi_run] at e1
    cases h1 : gi_look (gi_tab M) pc with
    | none => rw [h1] at e1; cases e1
    | some x =>
      rw [h1] at e1
      simp only at e1
      cases h2 : gi_go gi_df (gi_ret M) x pc lv st h with
      | none => rw [h2] at e1; cases e1
      | some o =>
        rw [h2] at e1
        match o, h2, e1 with
        | .inl (pc1, lv1, st1, h1'), h2, e1 => exact gi_Ev1 h1 h2 (ih e1)
        | .inr _, h2, e1 => cases e1
/-! the shallow functions' own words, and an event a row -/
theorem gi_bind {α β : Type} {o : Option α} {f : α → Option β} {r : β} (h : o.bind f = some r) : ∃ x, o = some x ∧ f x = some r := by
  cases o with
  | none => cases h
  | some x => exact ⟨x, rfl, h⟩
def gi_fI (h : gi_H) (o c k : Nat) : Option Int32 := match gi_fg h o c k with
  | some (.int x) => some x
  | _ => none
def gi_fJ (h : gi_H) (o c k : Nat) : Option Int64 := match gi_fg h o c k with
  | some (.long x) => some x
  | _ => none
def gi_fR (h : gi_H) (o c k : Nat) : Option Nat := match gi_fg h o c k with
  | some (.ref x) => some x
  | _ => none
theorem gi_fI_inv {h : gi_H} {o c k : Nat} {x : Int32} (e : gi_fI h o c k = some x) : gi_fg h o c k = some (.int x) := by
  unfold gi_fI at e
  split at e
  · rename_i q; cases e; exact q
  · cases e
theorem gi_fJ_inv {h : gi_H} {o c k : Nat} {x : Int64} (e : gi_fJ h o c k = some x) : gi_fg h o c k = some (.long x) := by
  unfold gi_fJ at e
  split at e
  · rename_i q; cases e; exact q
  · cases e
theorem gi_fR_inv {h : gi_H} {o c k : Nat} {x : Nat} (e : gi_fR h o c k = some x) : gi_fg h o c k = some (.ref x) := by
  unfold gi_fR at e
  split at e
  · rename_i q; cases e; exact q
  · cases e
def gi_new (h : gi_H) (e : va_E) : Option gi_H := some (h ++ [e])
section EVR
variable {M : gi_M} {pc : Nat} {lv : gi_Lv} {st : List Value} {h h' : gi_H} {r : Option Value × gi_H} {a b : Nat} {v : Value}
theorem gi_EvF {i o : Nat} {w : Value} (h1 : gi_look (gi_tab M) pc = some (.getfield i, a, b, v)) (h2 : gi_fg h o a b = some w) (e : gi_Ev M (pc + 3) lv (w :: st) h r) : gi_Ev M pc lv (.ref o :: st) h r := gi_Ev1 h1 (by simp only [gi_go, h2]) e
theorem gi_EvFp {i o : Nat} {w : Value} (h1 : gi_look (gi_tab M) pc = some (.putfield i, a, b, v)) (h2 : gi_kd v w = true) (h3 : gi_fp h o a b w = some h') (e : gi_Ev M (pc + 3) lv st h' r) : gi_Ev M pc lv (w :: .ref o :: st) h r := gi_Ev1 h1 (by simp only [gi_go, h2, h3, gi_kh]) e
theorem gi_EvAi {o : Nat} {i x : Int32} (h1 : gi_look (gi_tab M) pc = some (.iaload, a, b, v)) (h2 : gi_ai h o a i = some x) (e : gi_Ev M (pc + 1) lv (.int x :: st) h r) : gi_Ev M pc lv (.int i :: .ref o :: st) h r := gi_Ev1 h1 (by simp only [gi_go, h2]) e
theorem gi_EvBi {o : Nat} {i x : Int32} (h1 : gi_look (gi_tab M) pc = some (.baload, a, b, v)) (h2 : gi_ai h o 2 i = some x) (e : gi_Ev M (pc + 1) lv (.int x :: st) h r) : gi_Ev M pc lv (.int i :: .ref o :: st) h r := gi_Ev1 h1 (by simp only [gi_go, h2]) e
theorem gi_EvAl {o : Nat} {i : Int32} {x : Int64} (h1 : gi_look (gi_tab M) pc = some (.laload, a, b, v)) (h2 : gi_al h o i = some x) (e : gi_Ev M (pc + 1) lv (.long x :: st) h r) : gi_Ev M pc lv (.int i :: .ref o :: st) h r := gi_Ev1 h1 (by simp only [gi_go, h2]) e
theorem gi_EvAqN {o : Nat} {i : Int32} (h1 : gi_look (gi_tab M) pc = some (.aaload, a, b, v)) (h2 : gi_aq h o i = some none) (e : gi_Ev M (pc + 1) lv (.null :: st) h r) : gi_Ev M pc lv (.int i :: .ref o :: st) h r := gi_Ev1 h1 (by simp only [gi_go, h2]) e
theorem gi_EvAqS {o x : Nat} {i : Int32} (h1 : gi_look (gi_tab M) pc = some (.aaload, a, b, v)) (h2 : gi_aq h o i = some (some x)) (e : gi_Ev M (pc + 1) lv (.ref x :: st) h r) : gi_Ev M pc lv (.int i :: .ref o :: st) h r := gi_Ev1 h1 (by simp only [gi_go, h2]) e
theorem gi_EvPi {o : Nat} {i x : Int32} (h1 : gi_look (gi_tab M) pc = some (.iastore, a, b, v)) (h2 : gi_pi h o 0 i x = some h') (e : gi_Ev M (pc + 1) lv st h' r) : gi_Ev M pc lv (.int x :: .int i :: .ref o :: st) h r := gi_Ev1 h1 (by simp only [gi_go, h2, gi_kh]) e
theorem gi_EvPb {o : Nat} {i x : Int32} (h1 : gi_look (gi_tab M) pc = some (.bastore, a, b, v)) (hx : x = 0 ∨ x = 1) (h2 : gi_pi h o 2 i x = some h') (e : gi_Ev M (pc + 1) lv st h' r) : gi_Ev M pc lv (.int x :: .int i :: .ref o :: st) h r := gi_Ev1 h1 (by simp only [gi_go, h2, gi_kh, if_pos hx]) e
theorem gi_EvPl {o : Nat} {i : Int32} {x : Int64} (h1 : gi_look (gi_tab M) pc = some (.lastore, a, b, v)) (h2 : gi_pl h o i x = some h') (e : gi_Ev M (pc + 1) lv st h' r) : gi_Ev M pc lv (.long x :: .int i :: .ref o :: st) h r := gi_Ev1 h1 (by simp only [gi_go, h2, gi_kh]) e
theorem gi_EvPq {o x : Nat} {i : Int32} (h1 : gi_look (gi_tab M) pc = some (.aastore, a, b, v)) (h2 : gi_pq h o i x a = some h') (e : gi_Ev M (pc + 1) lv st h' r) : gi_Ev M pc lv (.ref x :: .int i :: .ref o :: st) h r := gi_Ev1 h1 (by simp only [gi_go, h2, gi_kh]) e
theorem gi_EvAn {o n : Nat} (h1 : gi_look (gi_tab M) pc = some (.arraylength, a, b, v)) (h2 : gi_an h o a = some n) (e : gi_Ev M (pc + 1) lv (.int (Int32.ofNat n) :: st) h r) : gi_Ev M pc lv (.ref o :: st) h r := gi_Ev1 h1 (by simp only [gi_go, h2]) e
theorem gi_EvNew {i : Nat} (h1 : gi_look (gi_tab M) pc = some (.new i, a, b, v)) (h2 : gi_new h (.inr (a, gi_df a)) = some h') (e : gi_Ev M (pc + 3) lv (.ref h.length :: st) h' r) : gi_Ev M pc lv st h r := by
  cases h2
  exact gi_Ev1 h1 rfl e
theorem gi_EvNwa {t : ArrayType} {n : Int32} {N : Nat} (h1 : gi_look (gi_tab M) pc = some (.newarray t, a, b, v)) (hn : ¬ n < 0) (hN : n.toNatClampNeg = N) (hN2 : N ≤ 1000) (h2 : gi_new h (gi_na a N) = some h') (e : gi_Ev M (pc + 2) lv (.ref h.length :: st) h' r) : gi_Ev M pc lv (.int n :: st) h r := by
  cases h2
  subst hN
  exact gi_Ev1 h1 (by simp only [gi_go, if_pos (And.intro hn hN2)]) e
theorem gi_EvAnw {i : Nat} {n : Int32} {N : Nat} (h1 : gi_look (gi_tab M) pc = some (.anewarray i, a, b, v)) (hn : ¬ n < 0) (hN : n.toNatClampNeg = N) (hN2 : N ≤ 1000) (h2 : gi_new h (gi_na 3 N) = some h') (e : gi_Ev M (pc + 3) lv (.ref h.length :: st) h' r) : gi_Ev M pc lv (.int n :: st) h r := by
  cases h2
  subst hN
  exact gi_Ev1 h1 (by simp only [gi_go, if_pos (And.intro hn hN2)]) e
theorem gi_EvCp {i d s : Nat} {n dp sp : Int32} (h1 : gi_look (gi_tab M) pc = some (.invokestatic i, a, b, v)) (h9 : Nat.beq a 999 = true) (h2 : gi_cp h s sp d dp n = some h') (e : gi_Ev M (pc + 3) lv [] h' r) : gi_Ev M pc lv [.int n, .int dp, .ref d, .int sp, .ref s] h r := gi_Ev1 h1 (by simp only [gi_go, h9, h2, gi_kh]) e
theorem gi_EvCS {i : Nat} {as rest : List Value} {w : Option Value} (h1 : gi_look (gi_tab M) pc = some (.invokestatic i, a, b, v)) (h9 : Nat.beq a 999 = false) (h2 : gi_tk b [] st = some (as, rest)) (h3 : Nat.ble (gi_cat rest) 8 = true) (h4 : Nat.ble (gi_en0 as).length (gi_maxL (gm a)) = true) (ec : gi_Ev (gm a) 0 (gi_en (gi_maxL (gm a)) as) [] h (w, h')) (e : gi_Ev M (pc + 3) lv (w.toList ++ rest) h' r) : gi_Ev M pc lv st h r := gi_EvC h1 (by simp only [gi_go, h9, gi_call, h2, if_pos (Nat.le_of_ble_eq_true h3)]) h4 ec e
theorem gi_EvCV {i o ci : Nat} {as rest : List Value} {w : Option Value} (h1 : gi_look (gi_tab M) pc = some (.invokevirtual i, a, b, .ref ci)) (h2 : gi_tk b [] st = some (.ref o :: as, rest)) (hi : gi_is h o ci = true) (h3 : Nat.ble (gi_cat rest) 8 = true) (h4 : Nat.ble (gi_en0 (.ref o :: as)).length (gi_maxL (gm a)) = true) (ec : gi_Ev (gm a) 0 (gi_en (gi_maxL (gm a)) (.ref o :: as)) [] h (w, h')) (e : gi_Ev M (pc + 3) lv (w.toList ++ rest) h' r) : gi_Ev M pc lv st h r := gi_EvC h1 (by simp only [gi_go, gi_callV, h2, gi_hd, hi, if_pos (Nat.le_of_ble_eq_true h3)]) h4 ec e
theorem gi_EvCI {i o : Nat} {as rest : List Value} {w : Option Value} (h1 : gi_look (gi_tab M) pc = some (.invokespecial i, a, b, v)) (h9 : Nat.beq a 998 = false) (h2 : gi_tk b [] st = some (.ref o :: as, rest)) (h3 : Nat.ble (gi_cat rest) 8 = true) (h4 : Nat.ble (gi_en0 (.ref o :: as)).length (gi_maxL (gm a)) = true) (ec : gi_Ev (gm a) 0 (gi_en (gi_maxL (gm a)) (.ref o :: as)) [] h (w, h')) (e : gi_Ev M (pc + 3) lv (w.toList ++ rest) h' r) : gi_Ev M pc lv st h r := gi_EvC h1 (by simp only [gi_go, h9, h2, gi_hd, gi_call, if_pos (Nat.le_of_ble_eq_true h3)]) h4 ec e
theorem gi_Ev_eq {x : Int32} {off : Int} (h1 : gi_look (gi_tab M) pc = some (.ifCond .eq off, a, b, v)) (kt : x = 0 → gi_Ev M a lv st h r) (kf : ¬ x = 0 → gi_Ev M (pc + 3) lv st h r) : gi_Ev M pc lv (.int x :: st) h r := by
  by_cases q : x = 0
  · exact gi_Ev1 h1 (by simp only [gi_go, if_pos q]) (kt q)
  · exact gi_Ev1 h1 (by simp only [gi_go, if_neg q]) (kf q)
theorem gi_Ev_ne {x : Int32} {off : Int} (h1 : gi_look (gi_tab M) pc = some (.ifCond .ne off, a, b, v)) (kt : x = 0 → gi_Ev M (pc + 3) lv st h r) (kf : ¬ x = 0 → gi_Ev M a lv st h r) : gi_Ev M pc lv (.int x :: st) h r := by
  by_cases q : x = 0
  · exact gi_Ev1 h1 (by simp only [gi_go, if_pos q]) (kt q)
  · exact gi_Ev1 h1 (by simp only [gi_go, if_neg q]) (kf q)
theorem gi_Ev_lt {x : Int32} {off : Int} (h1 : gi_look (gi_tab M) pc = some (.ifCond .lt off, a, b, v)) (kt : x < 0 → gi_Ev M a lv st h r) (kf : ¬ x < 0 → gi_Ev M (pc + 3) lv st h r) : gi_Ev M pc lv (.int x :: st) h r := by
  by_cases q : x < 0
  · exact gi_Ev1 h1 (by simp only [gi_go, if_pos q]) (kt q)
  · exact gi_Ev1 h1 (by simp only [gi_go, if_neg q]) (kf q)
theorem gi_Ev_ge {x : Int32} {off : Int} (h1 : gi_look (gi_tab M) pc = some (.ifCond .ge off, a, b, v)) (kt : 0 ≤ x → gi_Ev M a lv st h r) (kf : ¬ 0 ≤ x → gi_Ev M (pc + 3) lv st h r) : gi_Ev M pc lv (.int x :: st) h r := by
  by_cases q : 0 ≤ x
  · exact gi_Ev1 h1 (by simp only [gi_go, if_pos q]) (kt q)
  · exact gi_Ev1 h1 (by simp only [gi_go, if_neg q]) (kf q)
theorem gi_Ev_gt {x : Int32} {off : Int} (h1 : gi_look (gi_tab M) pc = some (.ifCond .gt off, a, b, v)) (kt : 0 < x → gi_Ev M a lv st h r) (kf : ¬ 0 < x → gi_Ev M (pc + 3) lv st h r) : gi_Ev M pc lv (.int x :: st) h r := by
  by_cases q : 0 < x
  · exact gi_Ev1 h1 (by simp only [gi_go, if_pos q]) (kt q)
  · exact gi_Ev1 h1 (by simp only [gi_go, if_neg q]) (kf q)
theorem gi_Ev_le {x : Int32} {off : Int} (h1 : gi_look (gi_tab M) pc = some (.ifCond .le off, a, b, v)) (kt : x ≤ 0 → gi_Ev M a lv st h r) (kf : ¬ x ≤ 0 → gi_Ev M (pc + 3) lv st h r) : gi_Ev M pc lv (.int x :: st) h r := by
  by_cases q : x ≤ 0
  · exact gi_Ev1 h1 (by simp only [gi_go, if_pos q]) (kt q)
  · exact gi_Ev1 h1 (by simp only [gi_go, if_neg q]) (kf q)
theorem gi_Ev_ieq {x y : Int32} {off : Int} (h1 : gi_look (gi_tab M) pc = some (.if_icmp .eq off, a, b, v)) (kt : x = y → gi_Ev M a lv st h r) (kf : ¬ x = y → gi_Ev M (pc + 3) lv st h r) : gi_Ev M pc lv (.int y :: .int x :: st) h r := by
  by_cases q : x = y
  · exact gi_Ev1 h1 (by simp only [gi_go, if_pos q]) (kt q)
  · exact gi_Ev1 h1 (by simp only [gi_go, if_neg q]) (kf q)
theorem gi_Ev_ine {x y : Int32} {off : Int} (h1 : gi_look (gi_tab M) pc = some (.if_icmp .ne off, a, b, v)) (kt : x = y → gi_Ev M (pc + 3) lv st h r) (kf : ¬ x = y → gi_Ev M a lv st h r) : gi_Ev M pc lv (.int y :: .int x :: st) h r := by
  by_cases q : x = y
  · exact gi_Ev1 h1 (by simp only [gi_go, if_pos q]) (kt q)
  · exact gi_Ev1 h1 (by simp only [gi_go, if_neg q]) (kf q)
theorem gi_Ev_ilt {x y : Int32} {off : Int} (h1 : gi_look (gi_tab M) pc = some (.if_icmp .lt off, a, b, v)) (kt : x < y → gi_Ev M a lv st h r) (kf : ¬ x < y → gi_Ev M (pc + 3) lv st h r) : gi_Ev M pc lv (.int y :: .int x :: st) h r := by
  by_cases q : x < y
  · exact gi_Ev1 h1 (by simp only [gi_go, if_pos q]) (kt q)
  · exact gi_Ev1 h1 (by simp only [gi_go, if_neg q]) (kf q)
theorem gi_Ev_ige {x y : Int32} {off : Int} (h1 : gi_look (gi_tab M) pc = some (.if_icmp .ge off, a, b, v)) (kt : y ≤ x → gi_Ev M a lv st h r) (kf : ¬ y ≤ x → gi_Ev M (pc + 3) lv st h r) : gi_Ev M pc lv (.int y :: .int x :: st) h r := by
  by_cases q : y ≤ x
  · exact gi_Ev1 h1 (by simp only [gi_go, if_pos q]) (kt q)
  · exact gi_Ev1 h1 (by simp only [gi_go, if_neg q]) (kf q)
theorem gi_Ev_igt {x y : Int32} {off : Int} (h1 : gi_look (gi_tab M) pc = some (.if_icmp .gt off, a, b, v)) (kt : y < x → gi_Ev M a lv st h r) (kf : ¬ y < x → gi_Ev M (pc + 3) lv st h r) : gi_Ev M pc lv (.int y :: .int x :: st) h r := by
  by_cases q : y < x
  · exact gi_Ev1 h1 (by simp only [gi_go, if_pos q]) (kt q)
  · exact gi_Ev1 h1 (by simp only [gi_go, if_neg q]) (kf q)
theorem gi_Ev_ile {x y : Int32} {off : Int} (h1 : gi_look (gi_tab M) pc = some (.if_icmp .le off, a, b, v)) (kt : x ≤ y → gi_Ev M a lv st h r) (kf : ¬ x ≤ y → gi_Ev M (pc + 3) lv st h r) : gi_Ev M pc lv (.int y :: .int x :: st) h r := by
  by_cases q : x ≤ y
  · exact gi_Ev1 h1 (by simp only [gi_go, if_pos q]) (kt q)
  · exact gi_Ev1 h1 (by simp only [gi_go, if_neg q]) (kf q)
theorem gi_EvDi {x y : Int32} (h1 : gi_look (gi_tab M) pc = some (.idiv, a, b, v)) (hy : ¬ y = 0) (e : gi_Ev M (pc + 1) lv (.int (x / y) :: st) h r) : gi_Ev M pc lv (.int y :: .int x :: st) h r := gi_Ev1 h1 (by simp only [gi_go, if_neg hy]) e
theorem gi_EvRi {x y : Int32} (h1 : gi_look (gi_tab M) pc = some (.irem, a, b, v)) (hy : ¬ y = 0) (e : gi_Ev M (pc + 1) lv (.int (x - x / y * y) :: st) h r) : gi_Ev M pc lv (.int y :: .int x :: st) h r := gi_Ev1 h1 (by simp only [gi_go, if_neg hy]) e
theorem gi_EvDl {x y : Int64} (h1 : gi_look (gi_tab M) pc = some (.ldiv, a, b, v)) (hy : ¬ y = 0) (e : gi_Ev M (pc + 1) lv (.long (x / y) :: st) h r) : gi_Ev M pc lv (.long y :: .long x :: st) h r := gi_Ev1 h1 (by simp only [gi_go, if_neg hy]) e
theorem gi_EvRl {x y : Int64} (h1 : gi_look (gi_tab M) pc = some (.lrem, a, b, v)) (hy : ¬ y = 0) (e : gi_Ev M (pc + 1) lv (.long (x - x / y * y) :: st) h r) : gi_Ev M pc lv (.long y :: .long x :: st) h r := gi_Ev1 h1 (by simp only [gi_go, if_neg hy]) e
theorem gi_EvRz {x : Int32} (h1 : gi_look (gi_tab M) pc = some (.ireturn, a, b, v)) (hr : gi_ret M = some .boolean) (hx : x = 0 ∨ x = 1) : gi_Ev M pc lv [.int x] h (some (.int x), h) := gi_EvR h1 (by simp only [gi_go, hr, gi_rok, decide_eq_true hx])
/-- where a tableswitch goes -/
def gi_sw (pc : Nat) (d lo hi : Int) (offs : Array Int) (x : Int) : Option Nat := if x < lo ∨ hi < x then gi_tg pc d else (offs[(x - lo).toNat]?).bind (gi_tg pc)
theorem gi_EvTs {x : Int32} {d lo hi : Int} {offs : Array Int} {t : Nat} (h1 : gi_look (gi_tab M) pc = some (.tableswitch d lo hi offs, a, b, v)) (h2 : gi_sw pc d lo hi offs x.toInt = some t) (e : gi_Ev M t lv st h r) : gi_Ev M pc lv (.int x :: st) h r := by
  refine gi_Ev1 h1 ?_ e
  unfold gi_sw at h2
  simp only [gi_go]
  split at h2
  · rename_i q
    rw [if_pos q, h2]
    rfl
  · rename_i q
    rw [if_neg q]
    cases ho : offs[(x.toInt - lo).toNat]? with
    | none => rw [ho] at h2; cases h2
    | some off =>
      rw [ho] at h2
      simp only
      have h3 : gi_tg pc off = some t := h2
      rw [h3]
      rfl
theorem gi_EvLs {x : Int32} {d : Int} {ps : Array (Int × Int)} {t : Nat} {off : Int} (h1 : gi_look (gi_tab M) pc = some (.lookupswitch d ps, a, b, v)) (h2 : Op.lookupswitch.offset ps.toList d x.toInt = off) (h3 : gi_tg pc off = some t) (e : gi_Ev M t lv st h r) : gi_Ev M pc lv (.int x :: st) h r := by
  subst h2
  exact gi_Ev1 h1 (by simp only [gi_go, h3, gi_kp]) e
theorem gi_sw_at {x k : Int32} {pc : Nat} {d lo hi : Int} {offs : Array Int} {t : Nat} (hx : x = k) (h : gi_sw pc d lo hi offs k.toInt = some t) : gi_sw pc d lo hi offs x.toInt = some t := by rw [hx]; exact h
theorem gi_sw_out {x : Int} {pc : Nat} {d lo hi : Int} {offs : Array Int} {t : Nat} (hx : x < lo ∨ hi < x) (h : gi_tg pc d = some t) : gi_sw pc d lo hi offs x = some t := by unfold gi_sw; rw [if_pos hx]; exact h
end EVR
/-- enough turns for any loop here -/
def gi_F : Nat := 5000
