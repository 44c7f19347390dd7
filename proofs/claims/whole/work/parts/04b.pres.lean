/-! FROM THE INTERPRETER TO THE MACHINE, 2: what is checked of a table; what every instruction keeps -/
def gi_len (ins : Instr) (b : Nat) : Nat := match ins with
  | .bipush _ | .ldc _ | .iload _ | .lload _ | .istore _ | .lstore _ | .newarray _ => 2
  | .sipush _ | .ldc_w _ | .ldc2_w _ | .iinc _ _ | .goto _ | .ifCond _ _ | .if_icmp _ _ | .ifnonnull _ | .getfield _ | .putfield _ | .new _ | .anewarray _ | .invokestatic _ | .invokevirtual _ | .invokespecial _ => 3
  | .tableswitch .. | .lookupswitch .. => b
  | _ => 1
/-- a kind fits a field's type -/
def gi_kok : Value → FieldType → Bool
  | .int _, .int => true
  | .long _, .long => true
  | .float _, .boolean => true
  | .null, .object _ => true
  | .null, .array _ => true
  | _, _ => false
/-- a callee, and how many it takes beside the receiver -/
def gi_okCP (P : Jvm.Cond → Bool) (M M' : gi_M) (n : Nat) : Bool :=
  P (.code (gi_name M') (gi_code M') (gi_maxL M') (gi_ret M')) && P (.initialized (gi_name M').cls) && decide ((gi_name M').cls ≠ "java/lang/invoke/MethodHandle") && decide ((gi_name M').cls ≠ "java/lang/invoke/VarHandle") && decide ((parseMethodDescriptor (gi_name M').desc).map (fun d => d.parameters.length) = some n) && decide (gi_rk M' < gi_rk M) && decide (gi_maxL M' ≤ 22) && plainFor (gi_name M') && decide (gi_own M' = (gi_name M').cls)
def gi_okIP (P PN : Jvm.Cond → Bool) (top : Bool) (pr : Nat → gi_M) (M : gi_M) (pc : Nat) (r : gi_I) : Bool :=
  match r with
  | (ins, a, b, v) => match ins with
    | .iconst n => decide (v = .int (Int32.ofInt n))
    | .lconst n => decide (v = .long (Int64.ofNat (n : Nat)))
    | .bipush n => decide (v = .int (Int8.ofInt n).toInt32)
    | .sipush n => decide (v = .int (Int16.ofInt n).toInt32)
    | .ldc i => match v with
      | .int x => P (.constant (gi_own M) i x)
      | _ => false
    | .ldc_w i => match v with
      | .int x => P (.constant (gi_own M) i x)
      | _ => false
    | .ldc2_w i => match v with
      | .long x => P (.constantLong (gi_own M) i x)
      | _ => false
    | .iload_n k | .lload_n k | .aload_n k | .istore_n k | .lstore_n k | .astore_n k => decide ((k : Nat) = a)
    | .iload k | .lload k | .istore k | .lstore k => decide (k = a)
    | .iinc k n => decide (k = a) && decide (v = .int (Int32.ofInt n))
    | .goto off | .ifCond _ off | .if_icmp _ off | .ifnonnull off => decide ((pc : Int) + off = (a : Int))
    | .lookupswitch _ ps => (ps.toList.zip (ps.toList.drop 1)).all (fun (a, next) => a.1 < next.1)
    | .getfield i => match gi_cls[a]? with
      | none => false
      | some q => decide (b < q.2.2) && P (.fieldLink (gi_own M) i (q.2.1 b).1 (q.2.1 b).2.1 (q.2.1 b).2.2.1)
    | .putfield i => match gi_cls[a]? with
      | none => false
      | some q => decide (b < q.2.2) && P (.fieldLink (gi_own M) i (q.2.1 b).1 (q.2.1 b).2.1 (q.2.1 b).2.2.1) && gi_kok v (gi_tys a b) && (!(q.2.1 b).2.2.2 || (decide ((gi_name M).name = "<init>") && decide ((q.2.1 b).1 = gi_own M)))
    | .new i => match gi_cls[a]? with
      | none => false
      | some q => P (.classLink (gi_own M) i q.1) && P (.instantiable q.1 q.2.2) && P (.initialized q.1)
    | .newarray t => (decide (a = 0) && decide (t = .int) && P (.arrayClass .int)) || (decide (a = 1) && decide (t = .long) && P (.arrayClass .long)) || (decide (a = 2) && decide (t = .boolean) && P (.arrayClass .boolean))
    | .anewarray i => P (.classLink (gi_own M) i gi_Bk)
    | .iaload | .arraylength => decide (a = 0) || (top && decide (a = 9))
    | .aastore => decide (a = 0)
    | .invokestatic i => match Nat.beq a 999 with
      | true => P (.methodLink (gi_own M) i arraycopyName) && P (.native arraycopyName) && P (.static arraycopyName) && P (.initialized "java/lang/System") && decide (1 ≤ gi_rk M)
      | false => (match v with
        | .ref _ => PN (.methodLinkNest (gi_own M) i (gi_name (pr a)) "AdmiralGuinea")
        | _ => P (.methodLink (gi_own M) i (gi_name (pr a)))) && P (.static (gi_name (pr a))) && gi_okCP P M (pr a) b
    | .invokevirtual i => match v with
      | .ref ci => (match gi_cls[ci]? with
        | none => false
        | some q => decide (q.1 = (gi_name (pr a)).cls)) && P (.methodLink (gi_own M) i (gi_name (pr a))) && P (.instanceMethod (gi_name (pr a))) && P (.selects (gi_name (pr a)).cls (gi_name (pr a)) (gi_name (pr a))) && (match b with
        | 0 => false
        | b' + 1 => gi_okCP P M (pr a) b')
      | _ => false
    | .invokespecial i => match Nat.beq a 998 with
      | true => P (.methodLink (gi_own M) i objectInit) && P (.instanceMethod objectInit) && P (.code objectInit ⟨#[0xb1]⟩ 1 none) && decide (1 ≤ gi_rk M)
      | false => P (.methodLink (gi_own M) i (gi_name (pr a))) && P (.instanceMethod (gi_name (pr a))) && decide ((gi_name (pr a)).name = "<init>") && decide (gi_ret (pr a) = none) && (match b with
        | 0 => false
        | b' + 1 => gi_okCP P M (pr a) b')
    | _ => true
abbrev gi_okC (M M' : gi_M) (n : Nat) : Bool := gi_okCP gi_in M M' n
abbrev gi_okI (top : Bool) (pr : Nat → gi_M) (M : gi_M) (pc : Nat) (r : gi_I) : Bool := gi_okIP gi_in gi_inN top pr M pc r
theorem gi_okCP_mono {P P' : Jvm.Cond → Bool} (hP : ∀ w, P w = true → P' w = true) {M M' : gi_M} {n : Nat} (h : gi_okCP P M M' n = true) : gi_okCP P' M M' n = true := by
  simp only [gi_okCP, Bool.and_eq_true] at h ⊢
  obtain ⟨⟨⟨⟨⟨⟨⟨⟨k1, k2⟩, k3⟩, k4⟩, k5⟩, k6⟩, k7⟩, k8⟩, k9⟩ := h
  exact ⟨⟨⟨⟨⟨⟨⟨⟨hP _ k1, hP _ k2⟩, k3⟩, k4⟩, k5⟩, k6⟩, k7⟩, k8⟩, k9⟩
theorem gi_okIP_mono {P P' PN PN' : Jvm.Cond → Bool} (hP : ∀ w, P w = true → P' w = true) (hN : ∀ w, PN w = true → PN' w = true) {top : Bool} {pr : Nat → gi_M} {M : gi_M} {pc : Nat} {r : gi_I} (h : gi_okIP P PN top pr M pc r = true) : gi_okIP P' PN' top pr M pc r = true := by
  obtain ⟨ins, a, b, v⟩ := r
  cases ins with
  | ldc i => cases v <;> first | exact hP _ h | exact h
  | ldc_w i => cases v <;> first | exact hP _ h | exact h
  | ldc2_w i => cases v <;> first | exact hP _ h | exact h
  | getfield i =>
    simp only [gi_okIP] at h ⊢
    split at h
    · cases h
    · simp only [Bool.and_eq_true] at h ⊢
      exact ⟨h.1, hP _ h.2⟩
  | putfield i =>
    simp only [gi_okIP] at h ⊢
    split at h
    · cases h
    · simp only [Bool.and_eq_true] at h ⊢
      obtain ⟨⟨⟨o1, o2⟩, o3⟩, o4⟩ := h
      exact ⟨⟨⟨o1, hP _ o2⟩, o3⟩, o4⟩
  | new i =>
    simp only [gi_okIP] at h ⊢
    split at h
    · cases h
    · simp only [Bool.and_eq_true] at h ⊢
      exact ⟨⟨hP _ h.1.1, hP _ h.1.2⟩, hP _ h.2⟩
  | newarray t =>
    simp only [gi_okIP, Bool.and_eq_true, Bool.or_eq_true] at h ⊢
    rcases h with (⟨h1, h2⟩ | ⟨h1, h2⟩) | ⟨h1, h2⟩
    · exact Or.inl (Or.inl ⟨h1, hP _ h2⟩)
    · exact Or.inl (Or.inr ⟨h1, hP _ h2⟩)
    · exact Or.inr ⟨h1, hP _ h2⟩
  | anewarray i => exact hP _ h
  | invokestatic i =>
    simp only [gi_okIP] at h ⊢
    split at h
    · simp only [Bool.and_eq_true] at h ⊢
      obtain ⟨⟨⟨⟨o1, o2⟩, o3⟩, o4⟩, o5⟩ := h
      exact ⟨⟨⟨⟨hP _ o1, hP _ o2⟩, hP _ o3⟩, hP _ o4⟩, o5⟩
    · simp only [Bool.and_eq_true] at h ⊢
      obtain ⟨⟨o1, o2⟩, o3⟩ := h
      refine ⟨⟨?_, hP _ o2⟩, gi_okCP_mono hP o3⟩
      cases v <;> first | exact hN _ o1 | exact hP _ o1
  | invokevirtual i =>
    simp only [gi_okIP] at h ⊢
    split at h
    · simp only [Bool.and_eq_true] at h ⊢
      obtain ⟨⟨⟨⟨o0, o1⟩, o2⟩, o3⟩, o4⟩ := h
      refine ⟨⟨⟨⟨o0, hP _ o1⟩, hP _ o2⟩, hP _ o3⟩, ?_⟩
      cases b with
      | zero => exact o4
      | succ b => exact gi_okCP_mono hP o4
    · cases h
  | invokespecial i =>
    simp only [gi_okIP] at h ⊢
    split at h
    · simp only [Bool.and_eq_true] at h ⊢
      obtain ⟨⟨⟨o1, o2⟩, o3⟩, o4⟩ := h
      exact ⟨⟨⟨hP _ o1, hP _ o2⟩, hP _ o3⟩, o4⟩
    · simp only [Bool.and_eq_true] at h ⊢
      obtain ⟨⟨⟨⟨o1, o2⟩, o3⟩, o4⟩, o5⟩ := h
      refine ⟨⟨⟨⟨hP _ o1, hP _ o2⟩, o3⟩, o4⟩, ?_⟩
      cases b with
      | zero => exact o5
      | succ b => exact gi_okCP_mono hP o5
  | _ => exact h
/-- the same by the places of the words -/
def gi_ph (hs : List Nat) (w : Jvm.Cond) : Bool := hs.any (fun i => decide (lw_tbl[i]? = some w)) && goodWord w
def gi_phN (hs : List Nat) (w : Jvm.Cond) : Bool := hs.any (fun i => decide (lw_tbl[i]? = some w)) && gi_isN w
theorem gi_any_mem {hs : List Nat} {w : Jvm.Cond} (h : hs.any (fun i => decide (lw_tbl[i]? = some w)) = true) : w ∈ lw_tbl := by
  obtain ⟨i, -, hi⟩ := List.any_eq_true.mp h
  exact List.mem_of_getElem? (of_decide_eq_true hi)
theorem gi_ph_in {hs : List Nat} {w : Jvm.Cond} (h : gi_ph hs w = true) : gi_in w = true := by
  simp only [gi_ph, Bool.and_eq_true] at h
  simp only [gi_in, Bool.and_eq_true, decide_eq_true_eq]
  exact ⟨gi_any_mem h.1, h.2⟩
theorem gi_phN_in {hs : List Nat} {w : Jvm.Cond} (h : gi_phN hs w = true) : gi_inN w = true := by
  simp only [gi_phN, Bool.and_eq_true] at h
  simp only [gi_inN, Bool.and_eq_true, decide_eq_true_eq]
  exact ⟨gi_any_mem h.1, h.2⟩
def gi_okRh (top : Bool) (pr : Nat → gi_M) (M : gi_M) (r : gi_R) (hs : List Nat) : Bool := decide (decode (gi_code M) r.1 = .ok (r.2.1, gi_len r.2.1 r.2.2.2.1)) && gi_okIP (gi_ph hs) (gi_phN hs) top pr M r.1 r.2
def gi_okT (top : Bool) (pr : Nat → gi_M) (M : gi_M) : List gi_R → List (List Nat) → Bool
  | [], _ => true
  | _ :: _, [] => false
  | r :: t, hs :: q => gi_okRh top pr M r hs && gi_okT top pr M t q
def gi_okR (top : Bool) (pr : Nat → gi_M) (M : gi_M) (r : gi_R) : Bool := decide (decode (gi_code M) r.1 = .ok (r.2.1, gi_len r.2.1 r.2.2.2.1)) && gi_okI top pr M r.1 r.2
def gi_okM (top : Bool) (pr : Nat → gi_M) (M : gi_M) : Prop := ∀ r ∈ gi_tab M, gi_okR top pr M r = true
theorem gi_okT_ok {top : Bool} {pr : Nat → gi_M} {M : gi_M} : ∀ {t : List gi_R} {hs : List (List Nat)}, gi_okT top pr M t hs = true → ∀ r ∈ t, gi_okR top pr M r = true := by
  intro t
  induction t with
  | nil => intro hs _ r hr; cases hr
  | cons x t ih =>
    intro hs h r hr
    cases hs with
    | nil => cases h
    | cons y q =>
      simp only [gi_okT, Bool.and_eq_true] at h
      rcases List.mem_cons.mp hr with rfl | hr
      · have h1 := h.1
        simp only [gi_okRh, Bool.and_eq_true] at h1
        simp only [gi_okR, Bool.and_eq_true]
        exact ⟨h1.1, gi_okIP_mono (fun _ => gi_ph_in) (fun _ => gi_phN_in) h1.2⟩
      · exact ih h.2 r hr
theorem gi_look_mem : ∀ {t : List gi_R} {pc : Nat} {x : gi_I}, gi_look t pc = some x → (pc, x) ∈ t := by
  intro t
  induction t with
  | nil => intro pc x h; cases h
  | cons r t ih =>
    intro pc x h
    rw [gi_look] at h
    cases hb : Nat.beq r.1 pc with
    | true =>
      rw [hb] at h
      have e : r.1 = pc := Nat.eq_of_beq_eq_true hb
      cases h
      subst e
      exact List.mem_cons_self
    | false => rw [hb] at h; exact List.mem_cons_of_mem _ (ih h)
theorem gi_ok_at {top : Bool} {pr : Nat → gi_M} {M : gi_M} (hM : gi_okM top pr M) {pc : Nat} {x : gi_I} (h : gi_look (gi_tab M) pc = some x) : decode (gi_code M) pc = .ok (x.1, gi_len x.1 x.2.2.1) ∧ gi_okI top pr M pc x = true := by
  have h1 := hM _ (gi_look_mem h)
  simp only [gi_okR, Bool.and_eq_true, decide_eq_true_eq] at h1
  exact h1
/-! what is kept -/
def gi_P (h : gi_H) (lv : gi_Lv) (h' : gi_H) (lv' : gi_Lv) (st' : List Value) : Prop := gi_wh h' ∧ gi_wl h'.length lv' ∧ gi_ws h'.length st' ∧ gi_h0 h' ∧ h.length ≤ h'.length ∧ gi_slots h ≤ gi_slots h' ∧ lv'.length = lv.length ∧ h'[0]? = h[0]?
theorem gi_ws_cons {n : Nat} {v : Value} {t : List Value} : gi_ws n (v :: t) ↔ gi_wv n v ∧ gi_ws n t := by simp [gi_ws]
theorem gi_ws_nil {n : Nat} : gi_ws n [] := fun _ h => by cases h
theorem gi_P.st {h : gi_H} {lv : gi_Lv} {st' : List Value} (w : gi_wh h) (l : gi_wl h.length lv) (h0 : gi_h0 h) (s : gi_ws h.length st') : gi_P h lv h lv st' := ⟨w, l, s, h0, Nat.le_refl _, Nat.le_refl _, rfl, rfl⟩
theorem gi_P.s1 {h : gi_H} {lv lv' : gi_Lv} {st' : List Value} {i : Nat} {v : Value} (w : gi_wh h) (l : gi_wl h.length lv) (h0 : gi_h0 h) (s : gi_ws h.length st') (hv : gi_wv h.length v) (hs : gi_s1 lv i v = some lv') : gi_P h lv h lv' st' := by
  obtain ⟨a1, a2, a3⟩ := gi_s1_spec hs
  refine ⟨w, fun j x hx => ?_, s, h0, Nat.le_refl _, Nat.le_refl _, a1, rfl⟩
  rcases a3 j x hx with ⟨-, rfl⟩ | ⟨-, b, -⟩
  · exact hv
  · exact l j x b
theorem gi_P.s2 {h : gi_H} {lv lv' : gi_Lv} {st' : List Value} {i : Nat} {v : Value} (w : gi_wh h) (l : gi_wl h.length lv) (h0 : gi_h0 h) (s : gi_ws h.length st') (hv : gi_wv h.length v) (hs : gi_s2 lv i v = some lv') : gi_P h lv h lv' st' := by
  obtain ⟨a1, a2, a3⟩ := gi_s2_spec hs
  refine ⟨w, fun j x hx => ?_, s, h0, Nat.le_refl _, Nat.le_refl _, a1, rfl⟩
  rcases a3 j x hx with ⟨-, rfl⟩ | ⟨-, -, b, -⟩
  · exact hv
  · exact l j x b
theorem gi_P.set {h : gi_H} {lv : gi_Lv} {st' : List Value} {o : Nat} {e x : va_E} (w : gi_wh h) (l : gi_wl h.length lv) (h0 : gi_h0 h) (s : gi_ws h.length st') (he : h[o]? = some e) (hn : ∀ z, e ≠ .inl (9, z)) (hx : gi_sl x = gi_sl e) (hw : gi_we h.length x) (hx9 : ∀ z, x ≠ .inl (9, z)) : gi_P h lv (h.set o x) lv st' := by
  obtain ⟨k, rfl⟩ := gi_h0_ne h0 he hn
  have h00 : (h.set (k + 1) x)[0]? = h[0]? := by rw [List.getElem?_set_ne (by omega)]
  refine ⟨fun p z hz => ?_, by rw [List.length_set]; exact l, by rw [List.length_set]; exact s, ?_, by rw [List.length_set]; exact Nat.le_refl _, by rw [gi_slots_set hx he]; exact Nat.le_refl _, rfl, h00⟩
  · rw [List.length_set]
    by_cases hp : k + 1 = p
    · subst hp
      rw [List.getElem?_set_self (List.getElem?_eq_some_iff.mp he).1] at hz
      cases hz
      exact hw
    · rw [List.getElem?_set_ne hp] at hz
      exact w p z hz
  · obtain ⟨⟨y, hy⟩, h9⟩ := h0
    refine ⟨⟨y, by rw [h00]; exact hy⟩, fun p z hz => ?_⟩
    by_cases hp : k + 1 = p
    · subst hp
      rw [List.getElem?_set_self (List.getElem?_eq_some_iff.mp he).1] at hz
      exact absurd (Option.some.inj hz) (hx9 z)
    · rw [List.getElem?_set_ne hp] at hz
      exact h9 p z hz
theorem gi_P.app {h : gi_H} {lv : gi_Lv} {st : List Value} {x : va_E} (w : gi_wh h) (l : gi_wl h.length lv) (h0 : gi_h0 h) (s : gi_ws h.length st) (hw : gi_we (h.length + 1) x) (hx9 : ∀ z, x ≠ .inl (9, z)) : gi_P h lv (h ++ [x]) lv (.ref h.length :: st) := by
  have hl : (h ++ [x]).length = h.length + 1 := by simp
  have h00 : (h ++ [x])[0]? = h[0]? := by
    obtain ⟨⟨y, hy⟩, -⟩ := h0
    rw [List.getElem?_append_left (List.getElem?_eq_some_iff.mp hy).1]
  refine ⟨fun p z hz => ?_, by rw [hl]; exact l.mono (by omega), by rw [hl]; exact gi_ws_cons.mpr ⟨Nat.lt_succ_self _, s.mono (by omega)⟩, ?_, by omega, by rw [gi_slots_app]; omega, rfl, h00⟩
  · rw [hl]
    by_cases hp : p < h.length
    · rw [List.getElem?_append_left hp] at hz
      exact (w p z hz).mono (by omega)
    · rw [List.getElem?_append_right (by omega)] at hz
      have := (List.getElem?_eq_some_iff.mp hz).1
      simp only [List.length_singleton] at this
      rw [show p - h.length = 0 by omega] at hz
      cases hz
      exact hw
  · obtain ⟨⟨y, hy⟩, h9⟩ := h0
    refine ⟨⟨y, by rw [h00]; exact hy⟩, fun p z hz => ?_⟩
    by_cases hp : p < h.length
    · rw [List.getElem?_append_left hp] at hz
      exact h9 p z hz
    · rw [List.getElem?_append_right (by omega)] at hz
      have := (List.getElem?_eq_some_iff.mp hz).1
      simp only [List.length_singleton] at this
      rw [show p - h.length = 0 by omega] at hz
      exact absurd (Option.some.inj hz) (hx9 z)
/-! the heap's own functions -/
theorem gi_fg_inv {h : gi_H} {o c k : Nat} {v : Value} (e : gi_fg h o c k = some v) : ∃ fs, h[o]? = some (.inr (c, fs)) ∧ fs[k]? = some v := by
  unfold gi_fg at e
  split at e
  · rename_i c' fs he
    split at e
    · rename_i hc; subst hc; exact ⟨fs, he, e⟩
    · cases e
  · cases e
theorem gi_fp_inv {h h' : gi_H} {o c k : Nat} {v : Value} (e : gi_fp h o c k v = some h') : ∃ fs, h[o]? = some (.inr (c, fs)) ∧ k < fs.length ∧ h' = h.set o (.inr (c, fs.set k v)) := by
  unfold gi_fp at e
  split at e
  · rename_i c' fs he
    split at e
    · rename_i hc; obtain ⟨rfl, hk⟩ := hc; cases e; exact ⟨fs, he, hk, rfl⟩
    · cases e
  · cases e
theorem gi_is_inv {h : gi_H} {o c : Nat} (e : gi_is h o c = true) : ∃ fs, h[o]? = some (.inr (c, fs)) := by
  unfold gi_is at e
  split at e
  · rename_i c' fs he
    have := Nat.eq_of_beq_eq_true e
    subst this
    exact ⟨fs, he⟩
  · cases e
theorem gi_ai_inv {h : gi_H} {o t : Nat} {i x : Int32} (e : gi_ai h o t i = some x) : ∃ n f, h[o]? = some (.inl (t, n, .inl f)) ∧ vp_in i n ∧ x = f i.toNatClampNeg := by
  unfold gi_ai at e
  split at e
  · rename_i t' n f he
    split at e
    · rename_i hc; obtain ⟨rfl, hk⟩ := hc; cases e; exact ⟨n, f, he, hk, rfl⟩
    · cases e
  · cases e
theorem gi_pi_inv {h h' : gi_H} {o t : Nat} {i x : Int32} (e : gi_pi h o t i x = some h') : ∃ n f, h[o]? = some (.inl (t, n, .inl f)) ∧ vp_in i n ∧ h' = h.set o (.inl (t, n, .inl (upd f i.toNatClampNeg x))) := by
  unfold gi_pi at e
  split at e
  · rename_i t' n f he
    split at e
    · rename_i hc; obtain ⟨rfl, hk⟩ := hc; cases e; exact ⟨n, f, he, hk, rfl⟩
    · cases e
  · cases e
theorem gi_al_inv {h : gi_H} {o : Nat} {i : Int32} {x : Int64} (e : gi_al h o i = some x) : ∃ n f, h[o]? = some (.inl (1, n, .inr (.inl f))) ∧ vp_in i n ∧ x = f i.toNatClampNeg := by
  unfold gi_al at e
  split at e
  · rename_i t' n f he
    split at e
    · rename_i hc; obtain ⟨rfl, hk⟩ := hc; cases e; exact ⟨n, f, he, hk, rfl⟩
    · cases e
  · cases e
theorem gi_pl_inv {h h' : gi_H} {o : Nat} {i : Int32} {x : Int64} (e : gi_pl h o i x = some h') : ∃ n f, h[o]? = some (.inl (1, n, .inr (.inl f))) ∧ vp_in i n ∧ h' = h.set o (.inl (1, n, .inr (.inl (vp_updL f i.toNatClampNeg x)))) := by
  unfold gi_pl at e
  split at e
  · rename_i t' n f he
    split at e
    · rename_i hc; obtain ⟨rfl, hk⟩ := hc; cases e; exact ⟨n, f, he, hk, rfl⟩
    · cases e
  · cases e
theorem gi_aq_inv {h : gi_H} {o : Nat} {i : Int32} {x : Option Nat} (e : gi_aq h o i = some x) : ∃ n f, h[o]? = some (.inl (3, n, .inr (.inr (.inr (.inr f))))) ∧ vp_in i n ∧ x = f i.toNatClampNeg := by
  unfold gi_aq at e
  split at e
  · rename_i t' n f he
    split at e
    · rename_i hc; obtain ⟨rfl, hk⟩ := hc; cases e; exact ⟨n, f, he, hk, rfl⟩
    · cases e
  · cases e
theorem gi_pq_inv {h h' : gi_H} {o x c : Nat} {i : Int32} (e : gi_pq h o i x c = some h') : ∃ n f, h[o]? = some (.inl (3, n, .inr (.inr (.inr (.inr f))))) ∧ vp_in i n ∧ gi_is h x c = true ∧ h' = h.set o (.inl (3, n, .inr (.inr (.inr (.inr (va_up f i.toNatClampNeg (some x))))))) := by
  unfold gi_pq at e
  split at e
  · rename_i t' n f he
    split at e
    · rename_i hc; obtain ⟨rfl, hk, hi⟩ := hc; cases e; exact ⟨n, f, he, hk, hi, rfl⟩
    · cases e
  · cases e
theorem gi_an_inv {h : gi_H} {o t n : Nat} (e : gi_an h o t = some n) : ∃ f, h[o]? = some (.inl (t, n, .inl f)) := by
  unfold gi_an at e
  split at e
  · rename_i t' n f he
    split at e
    · rename_i hc; obtain rfl := hc; cases e; exact ⟨f, he⟩
    · cases e
  · cases e
theorem gi_cp_inv {h h' : gi_H} {a d : Nat} {sp dp n : Int32} (e : gi_cp h a sp d dp n = some h') : ∃ n0 f n1 g, h[a]? = some (.inl (0, n0, .inl f)) ∧ h[d]? = some (.inl (0, n1, .inl g)) ∧ ¬ sp < 0 ∧ ¬ dp < 0 ∧ ¬ n < 0 ∧ sp.toNatClampNeg + n.toNatClampNeg ≤ n0 ∧ dp.toNatClampNeg + n.toNatClampNeg ≤ n1 ∧ h' = h.set d (.inl (0, n1, .inl (va_cpy f g sp.toNatClampNeg dp.toNatClampNeg n.toNatClampNeg))) := by
  unfold gi_cp at e
  split at e
  · rename_i t0 n0 f t1 n1 g he hd
    split at e
    · rename_i hc; obtain ⟨rfl, rfl, c1, c2, c3, c4, c5⟩ := hc; cases e; exact ⟨n0, f, n1, g, he, hd, c1, c2, c3, c4, c5, rfl⟩
    · cases e
  · cases e
theorem gi_kl_inv {pc : Nat} {o : Option gi_Lv} {st : List Value} {h : gi_H} {pc' : Nat} {lv' : gi_Lv} {st' : List Value} {h' : gi_H} (e : gi_kl pc o st h = some (.inl (pc', lv', st', h'))) : o = some lv' ∧ pc' = pc ∧ st' = st ∧ h' = h := by
  cases o with
  | none => cases e
  | some x => cases e; exact ⟨rfl, rfl, rfl, rfl⟩
theorem gi_kh_inv {pc : Nat} {o : Option gi_H} {lv : gi_Lv} {st : List Value} {pc' : Nat} {lv' : gi_Lv} {st' : List Value} {h' : gi_H} (e : gi_kh pc lv st o = some (.inl (pc', lv', st', h'))) : o = some h' ∧ pc' = pc ∧ st' = st ∧ lv' = lv := by
  cases o with
  | none => cases e
  | some x => cases e; exact ⟨rfl, rfl, rfl, rfl⟩
theorem gi_kp_inv {o : Option Nat} {lv : gi_Lv} {st : List Value} {h : gi_H} {pc' : Nat} {lv' : gi_Lv} {st' : List Value} {h' : gi_H} (e : gi_kp o lv st h = some (.inl (pc', lv', st', h'))) : o = some pc' ∧ h' = h ∧ st' = st ∧ lv' = lv := by
  cases o with
  | none => cases e
  | some x => cases e; exact ⟨rfl, rfl, rfl, rfl⟩
theorem gi_call_ninl {j b : Nat} {st : List Value} {s : gi_S} (e : gi_call j b st = some (.inl s)) : False := by
  unfold gi_call at e
  split at e
  · cases e
  · split at e <;> cases e
theorem gi_callV_ninl {j b ci : Nat} {st : List Value} {h : gi_H} {s : gi_S} (e : gi_callV j b ci st h = some (.inl s)) : False := by
  unfold gi_callV at e
  split at e
  · cases e
  · split at e
    · cases e
    · split at e
      · split at e <;> cases e
      · cases e
theorem gi_ws_set {n k : Nat} {fs : List Value} {v : Value} (h : gi_ws n fs) (hv : gi_wv n v) : gi_ws n (fs.set k v) := by
  intro x hx
  rcases List.mem_or_eq_of_mem_set hx with hx | rfl
  · exact h x hx
  · exact hv
theorem gi_ws_get {n k : Nat} {fs : List Value} {v : Value} (h : gi_ws n fs) (hk : fs[k]? = some v) : gi_wv n v := h v (List.mem_of_getElem? hk)
theorem gi_noref_ws {n : Nat} {l : List Value} (h : gi_noref l = true) : gi_ws n l := by
  intro v hv
  have := List.all_eq_true.mp h v hv
  cases v with
  | ref k => cases this
  | _ => trivial
set_option maxHeartbeats 4000000 in
theorem gi_go_P {top : Bool} {pr : Nat → gi_M} {M : gi_M} {ret : Option FieldType} {r : gi_I} {pc : Nat} {lv : gi_Lv} {st : List Value} {h : gi_H} {pc' : Nat} {lv' : gi_Lv} {st' : List Value} {h' : gi_H} (hok : gi_okI top pr M pc r = true) (w : gi_wh h) (l : gi_wl h.length lv) (s : gi_ws h.length st) (h0 : gi_h0 h) (e : gi_go gi_df ret r pc lv st h = some (.inl (pc', lv', st', h'))) : gi_P h lv h' lv' st' := by
  obtain ⟨ins, a, b, v⟩ := r
  cases ins with
  | iconst | lconst | bipush | sipush =>
    simp only [gi_okI, gi_okIP, decide_eq_true_eq] at hok
    subst hok
    cases e
    exact gi_P.st w l h0 (gi_ws_cons.mpr ⟨trivial, s⟩)
  | ldc | ldc_w | ldc2_w =>
    cases e
    refine gi_P.st w l h0 (gi_ws_cons.mpr ⟨?_, s⟩)
    cases v <;> first | trivial | simp [gi_okI, gi_okIP] at hok
  | iload_n | iload | lload_n | lload | aload_n =>
    simp only [gi_go] at e
    split at e <;> first | (cases e; exact gi_P.st w l h0 (gi_ws_cons.mpr ⟨l _ _ (by assumption), s⟩)) | cases e
  | istore_n | istore | lstore_n | lstore | astore_n =>
    simp only [gi_go] at e
    split at e <;> first | (obtain ⟨e1, -, rfl, rfl⟩ := gi_kl_inv e; have s1 := gi_ws_cons.mp s; first | exact gi_P.s1 w l h0 s1.2 s1.1 e1 | exact gi_P.s2 w l h0 s1.2 s1.1 e1) | cases e
  | iinc =>
    simp only [gi_go] at e
    split at e
    · obtain ⟨e1, -, rfl, rfl⟩ := gi_kl_inv e
      refine gi_P.s1 w l h0 s ?_ e1
      exact trivial
    · cases e
  | iadd | isub | imul | ineg | iand | ior | ixor | ishl | ishr | iushr | ladd | lsub | lmul | lneg | land | lor | lshl | lshr | lushr | lcmp | i2l | l2i | dup | dup2 | pop =>
    simp only [gi_go] at e
    split at e <;> first | (cases e; refine gi_P.st w l h0 ?_; simp only [gi_ws_cons, gi_wv] at s ⊢; simp [s]) | cases e
  | idiv | irem | ldiv | lrem =>
    simp only [gi_go] at e
    split at e
    · split at e
      · cases e
      · cases e; refine gi_P.st w l h0 ?_; simp only [gi_ws_cons, gi_wv] at s ⊢; simp [s]
    · cases e
  | goto => cases e; exact gi_P.st w l h0 s
  | ifCond c off =>
    cases c <;> simp only [gi_go] at e <;> split at e <;> first | cases e | (split at e <;> (cases e; refine gi_P.st w l h0 ?_; simp only [gi_ws_cons, gi_wv] at s ⊢; simp [s]))
  | if_icmp c off =>
    cases c <;> simp only [gi_go] at e <;> split at e <;> first | cases e | (split at e <;> (cases e; refine gi_P.st w l h0 ?_; simp only [gi_ws_cons, gi_wv] at s ⊢; simp [s]))
  | ifnonnull =>
    simp only [gi_go] at e
    split at e <;> first | (cases e; exact gi_P.st w l h0 (gi_ws_cons.mp s).2) | cases e
  | tableswitch =>
    simp only [gi_go] at e
    split at e
    · split at e
      · obtain ⟨-, rfl, rfl, rfl⟩ := gi_kp_inv e; exact gi_P.st w l h0 (gi_ws_cons.mp s).2
      · split at e
        · cases e
        · obtain ⟨-, rfl, rfl, rfl⟩ := gi_kp_inv e; exact gi_P.st w l h0 (gi_ws_cons.mp s).2
    · cases e
  | lookupswitch =>
    simp only [gi_go] at e
    split at e
    · obtain ⟨-, rfl, rfl, rfl⟩ := gi_kp_inv e; exact gi_P.st w l h0 (gi_ws_cons.mp s).2
    · cases e
  | getfield =>
    simp only [gi_go] at e
    split at e
    · split at e
      · cases e
      · rename_i x hx
        cases e
        obtain ⟨fs, g1, g2⟩ := gi_fg_inv hx
        exact gi_P.st w l h0 (gi_ws_cons.mpr ⟨gi_ws_get (w _ _ g1) g2, (gi_ws_cons.mp s).2⟩)
    · cases e
  | putfield =>
    simp only [gi_go] at e
    split at e
    · split at e
      · obtain ⟨e1, -, rfl, rfl⟩ := gi_kh_inv e
        obtain ⟨fs, g1, g2, rfl⟩ := gi_fp_inv e1
        have s1 := gi_ws_cons.mp s
        exact gi_P.set w l h0 (gi_ws_cons.mp s1.2).2 g1 (fun _ z => by cases z) rfl (gi_ws_set (w _ _ g1) s1.1) (fun _ z => by cases z)
      · cases e
    · cases e
  | iaload | baload | laload =>
    simp only [gi_go] at e
    split at e
    · split at e
      · cases e
      · cases e
        exact gi_P.st w l h0 (gi_ws_cons.mpr ⟨trivial, (gi_ws_cons.mp (gi_ws_cons.mp s).2).2⟩)
    · cases e
  | aaload =>
    simp only [gi_go] at e
    split at e
    · split at e
      · cases e
      · cases e
        exact gi_P.st w l h0 (gi_ws_cons.mpr ⟨trivial, (gi_ws_cons.mp (gi_ws_cons.mp s).2).2⟩)
      · rename_i x hx
        cases e
        obtain ⟨n, f, g1, g2, g3⟩ := gi_aq_inv hx
        exact gi_P.st w l h0 (gi_ws_cons.mpr ⟨w _ _ g1 _ _ g3.symm, (gi_ws_cons.mp (gi_ws_cons.mp s).2).2⟩)
    · cases e
  | iastore =>
    simp only [gi_go] at e
    split at e
    · obtain ⟨e1, -, rfl, rfl⟩ := gi_kh_inv e
      obtain ⟨n, f, g1, g2, rfl⟩ := gi_pi_inv e1
      simp only [gi_ws_cons] at s
      exact gi_P.set w l h0 s.2.2.2 g1 (fun _ z => by cases z) rfl trivial (fun _ z => by cases z)
    · cases e
  | bastore =>
    simp only [gi_go] at e
    split at e
    · split at e
      · obtain ⟨e1, -, rfl, rfl⟩ := gi_kh_inv e
        obtain ⟨n, f, g1, g2, rfl⟩ := gi_pi_inv e1
        simp only [gi_ws_cons] at s
        exact gi_P.set w l h0 s.2.2.2 g1 (fun _ z => by cases z) rfl trivial (fun _ z => by cases z)
      · cases e
    · cases e
  | lastore =>
    simp only [gi_go] at e
    split at e
    · obtain ⟨e1, -, rfl, rfl⟩ := gi_kh_inv e
      obtain ⟨n, f, g1, g2, rfl⟩ := gi_pl_inv e1
      simp only [gi_ws_cons] at s
      exact gi_P.set w l h0 s.2.2.2 g1 (fun _ z => by cases z) rfl trivial (fun _ z => by cases z)
    · cases e
  | aastore =>
    simp only [gi_go] at e
    split at e
    · obtain ⟨e1, -, rfl, rfl⟩ := gi_kh_inv e
      obtain ⟨n, f, g1, g2, g3, rfl⟩ := gi_pq_inv e1
      simp only [gi_ws_cons] at s
      refine gi_P.set w l h0 s.2.2.2 g1 (fun _ z => by cases z) rfl (fun j k hj => ?_) (fun _ z => by cases z)
      by_cases hji : j = Int32.toNatClampNeg ‹_›
      · subst hji
        simp only [va_up, if_true, Option.some.injEq] at hj
        rw [← hj]
        exact s.1
      · simp only [va_up, if_neg hji] at hj
        exact w _ _ g1 _ _ hj
    · cases e
  | arraylength =>
    simp only [gi_go] at e
    split at e
    · split at e
      · cases e
      · cases e
        exact gi_P.st w l h0 (gi_ws_cons.mpr ⟨trivial, (gi_ws_cons.mp s).2⟩)
    · cases e
  | newarray =>
    simp only [gi_go] at e
    split at e
    · split at e
      · cases e
        refine gi_P.app w l h0 (gi_ws_cons.mp s).2 ?_ ?_
        · unfold gi_na
          split <;> first | trivial | (intro j k hj; cases hj)
        · intro z hz
          unfold gi_na at hz
          split at hz <;> cases hz
      · cases e
    · cases e
  | anewarray =>
    simp only [gi_go] at e
    split at e
    · split at e
      · cases e
        exact gi_P.app w l h0 (gi_ws_cons.mp s).2 (fun j k hj => by cases hj) (fun _ z => by cases z)
      · cases e
    · cases e
  | new =>
    cases e
    refine gi_P.app w l h0 s ?_ (fun _ z => by cases z)
    simp only [gi_okI, gi_okIP] at hok
    split at hok
    · cases hok
    · rename_i q hq
      exact gi_noref_ws (gi_dfok _ _ hq).2
  | invokestatic =>
    simp only [gi_go] at e
    split at e
    · split at e
      · obtain ⟨e1, -, rfl, rfl⟩ := gi_kh_inv e
        obtain ⟨n0, f, n1, g, g1, g2, -, -, -, -, -, rfl⟩ := gi_cp_inv e1
        exact gi_P.set w l h0 gi_ws_nil g2 (fun _ z => by cases z) rfl trivial (fun _ z => by cases z)
      · cases e
    · exact (gi_call_ninl e).elim
  | invokevirtual =>
    simp only [gi_go] at e
    split at e
    · exact (gi_callV_ninl e).elim
    · cases e
  | invokespecial =>
    simp only [gi_go] at e
    split at e
    · split at e
      · cases e; exact gi_P.st w l h0 gi_ws_nil
      · cases e
    · split at e
      · cases e
      · split at e
        · cases e
        · exact (gi_call_ninl e).elim
  | ireturn =>
    simp only [gi_go] at e
    split at e
    · split at e <;> cases e
    · cases e
  | lreturn | return_ =>
    simp only [gi_go] at e
    split at e <;> cases e
  | _ => cases e
