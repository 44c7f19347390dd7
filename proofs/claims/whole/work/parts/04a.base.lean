/-! FROM THE INTERPRETER TO THE MACHINE, 1: words, tables, the picture of an abstract heap -/
def gi_AW : List Jvm.Cond := lw_tbl.filter goodWord
def gi_in (w : Jvm.Cond) : Bool := decide (w ∈ lw_tbl) && goodWord w
theorem gi_in_mem {w : Jvm.Cond} (h : gi_in w = true) : w ∈ gi_AW := by
  simp only [gi_in, Bool.and_eq_true, decide_eq_true_eq] at h
  exact List.mem_filter.mpr h
theorem gi_AW_good {w : Jvm.Cond} (h : w ∈ gi_AW) : (w.onTables && w.keeps) = true ∨ ∃ ty, w = .arrayClass ty := good_of_word (List.mem_filter.mp h).2
def gi_isN : Jvm.Cond → Bool
  | .methodLinkNest .. => true
  | _ => false
def gi_nest : List Jvm.Cond := lw_tbl.filter gi_isN
def gi_inN (w : Jvm.Cond) : Bool := decide (w ∈ lw_tbl) && gi_isN w
theorem gi_inN_mem {w : Jvm.Cond} (h : gi_inN w = true) : w ∈ gi_nest := by
  simp only [gi_inN, Bool.and_eq_true, decide_eq_true_eq] at h
  exact List.mem_filter.mpr h
abbrev gi_Bk : String := "AdmiralGuinea$Book"
def gi_NW (U : State) : Prop := (∀ w ∈ gi_nest, va_Nw w U) ∧ va_AO gi_Bk U
theorem gi_NW.warm {s U : State} (hW : s.WarmedH U.vm) (h : gi_NW s) : gi_NW U := by
  refine ⟨fun w hw => ?_, va_AO.moved hW.alike h.2⟩
  have h1 := h.1 w hw
  have h2 := (List.mem_filter.mp hw).2
  cases w with
  | methodLinkNest a i x q => exact va_Nw.warmM hW h1
  | _ => cases h2
theorem gi_NW.same {s U : State} (h : s.vm = U.vm) (hN : gi_NW s) : gi_NW U := by
  refine ⟨fun w hw => ?_, va_AO.moved (by rw [h]; exact Vm.Alike.refl _) hN.2⟩
  have h1 := hN.1 w hw
  have h2 := (List.mem_filter.mp hw).2
  cases w with
  | methodLinkNest a i x q => exact va_Nw.same rfl h h1
  | _ => cases h2
def gi_tys : Nat → Nat → FieldType := fun c => match c with
  | 0 => tyX0
  | 1 => tyX1
  | 2 => tyX2
  | 3 => tyX3
  | 4 => tyX4
  | 5 => tyX5
  | _ => tyX6
theorem gi_cls_cases {P : Nat → vw_C → Prop} (h0 : P 0 (RX0, TX0, 15)) (h1 : P 1 (RX1, TX1, 6)) (h2 : P 2 (RX2, TX2, 2)) (h3 : P 3 (RX3, TX3, 2)) (h4 : P 4 (RX4, TX4, 1)) (h5 : P 5 (RX5, TX5, 6)) (h6 : P 6 (RX6, TX6, 16)) : ∀ (c : Nat) (q : vw_C), gi_cls[c]? = some q → P c q := by
  intro c q h
  match c, h with
  | 0, h => cases h; exact h0
  | 1, h => cases h; exact h1
  | 2, h => cases h; exact h2
  | 3, h => cases h; exact h3
  | 4, h => cases h; exact h4
  | 5, h => cases h; exact h5
  | 6, h => cases h; exact h6
  | c + 7, h => simp [gi_cls] at h
theorem gi_tyok : ∀ (c : Nat) (q : vw_C), gi_cls[c]? = some q → ∀ k, k < q.2.2 → parseFieldDescriptor (q.2.1 k).2.2.1 = some (gi_tys c k) := gi_cls_cases tyX0_ok tyX1_ok tyX2_ok tyX3_ok tyX4_ok tyX5_ok tyX6_ok
theorem gi_nmok : ∀ (c : Nat) (q : vw_C), gi_cls[c]? = some q → ∀ a, a < q.2.2 → ∀ b, b < q.2.2 → a ≠ b → (q.2.1 a).2.1 ≠ (q.2.1 b).2.1 := gi_cls_cases nmX0 nmX1 nmX2 nmX3 nmX4 nmX5 nmX6
theorem gi_wok_of {l : List Jvm.Cond} (h : l.all gi_in = true) : ∀ w ∈ l, w ∈ gi_AW := fun w hw => gi_in_mem (List.all_eq_true.mp h w hw)
theorem gi_win : ∀ (c : Nat) (q : vw_C), gi_cls[c]? = some q → ∀ w ∈ u_ws q.1 q.2.1 q.2.2, w ∈ gi_AW := gi_cls_cases (gi_wok_of (by decide +kernel)) (gi_wok_of (by decide +kernel)) (gi_wok_of (by decide +kernel)) (gi_wok_of (by decide +kernel)) (gi_wok_of (by decide +kernel)) (gi_wok_of (by decide +kernel)) (gi_wok_of (by decide +kernel))
def gi_noref : List Value → Bool := fun l => l.all fun v => match v with
  | .ref _ => false
  | _ => true
theorem gi_dfok : ∀ (c : Nat) (q : vw_C), gi_cls[c]? = some q → (∀ j, j < q.2.2 → defaultValue (gi_tys c j) = vp_V (gi_df c) j) ∧ gi_noref (gi_df c) = true := gi_cls_cases (by decide +kernel) (by decide +kernel) (by decide +kernel) (by decide +kernel) (by decide +kernel) (by decide +kernel) (by decide +kernel)
/-- how many fields -/
def gi_N (c : Nat) : Nat := match gi_cls[c]? with
  | some q => q.2.2
  | none => 0
/-! the picture -/
def gc_v (ad : Nat → Nat) : Value → Value
  | .ref k => .ref (ad k)
  | v => v
def gc_a (ad : Nat → Nat) : vp_A → vp_A
  | (n, .inr (.inr (.inr (.inr f)))) => (n, .inr (.inr (.inr (.inr (fun j => (f j).map ad)))))
  | x => x
def gc_e (ct : Nat → ClassId) (ad : Nat → Nat) : va_E → va_E
  | .inl (t, x) => .inl (ct t, gc_a ad x)
  | .inr (c, fs) => .inr (c, fs.map (gc_v ad))
def gc_wf (ct : Nat → ClassId) (ad : Nat → Nat) : Nat → gi_H → va_W
  | _, [] => []
  | k, e :: t => (ad k, gc_e ct ad e) :: gc_wf ct ad (k + 1) t
def gc_w (ct : Nat → ClassId) (ad : Nat → Nat) (h : gi_H) : va_W := gc_wf ct ad 1 h.tail
theorem gc_cat (ad : Nat → Nat) (v : Value) : (gc_v ad v).category = v.category := by cases v <;> rfl
theorem gc_wf_get (ct : Nat → ClassId) (ad : Nat → Nat) : ∀ (l : gi_H) (k i : Nat), (gc_wf ct ad k l)[i]? = (l[i]?).map (fun e => (ad (k + i), gc_e ct ad e)) := by
  intro l
  induction l with
  | nil => intro k i; simp [gc_wf]
  | cons e t ih =>
    intro k i
    cases i with
    | zero => simp [gc_wf]
    | succ i =>
      simp only [gc_wf, List.getElem?_cons_succ]
      rw [ih, show k + 1 + i = k + (i + 1) by omega]
theorem gc_wf_set (ct : Nat → ClassId) (ad : Nat → Nat) (x : va_E) : ∀ (l : gi_H) (k i : Nat), gc_wf ct ad k (l.set i x) = (gc_wf ct ad k l).set i (ad (k + i), gc_e ct ad x) := by
  intro l
  induction l with
  | nil => intro k i; simp [gc_wf]
  | cons e t ih =>
    intro k i
    cases i with
    | zero => simp [gc_wf]
    | succ i =>
      simp only [gc_wf, List.set_cons_succ]
      rw [ih, show k + 1 + i = k + (i + 1) by omega]
theorem gc_wf_app (ct : Nat → ClassId) (ad : Nat → Nat) (x : va_E) : ∀ (l : gi_H) (k : Nat), gc_wf ct ad k (l ++ [x]) = gc_wf ct ad k l ++ [(ad (k + l.length), gc_e ct ad x)] := by
  intro l
  induction l with
  | nil => intro k; simp [gc_wf]
  | cons e t ih =>
    intro k
    simp only [List.cons_append, gc_wf, List.length_cons]
    rw [ih, show k + 1 + t.length = k + (t.length + 1) by omega]
/-- place 0 is the script -/
def gi_h0 (h : gi_H) : Prop := (∃ x, h[0]? = some (.inl (9, x))) ∧ ∀ (o : Nat) (x : vp_A), h[o]? = some (.inl (9, x)) → o = 0
theorem gi_h0_ne {h : gi_H} (h0 : gi_h0 h) {o : Nat} {e : va_E} (he : h[o]? = some e) (hn : ∀ x, e ≠ .inl (9, x)) : ∃ k, o = k + 1 := by
  cases o with
  | zero =>
    obtain ⟨⟨x, hx⟩, -⟩ := h0
    rw [hx] at he
    exact absurd (Option.some.inj he).symm (hn x)
  | succ k => exact ⟨k, rfl⟩
theorem gc_w_get {ct : Nat → ClassId} {ad : Nat → Nat} {h : gi_H} {k : Nat} {e : va_E} (he : h[k + 1]? = some e) : (gc_w ct ad h)[k]? = some (ad (k + 1), gc_e ct ad e) := by
  unfold gc_w
  rw [gc_wf_get]
  cases h with
  | nil => simp at he
  | cons x t =>
    rw [List.getElem?_cons_succ] at he
    rw [List.tail_cons, he, show 1 + k = k + 1 by omega]
    rfl
theorem gc_w_set {ct : Nat → ClassId} {ad : Nat → Nat} {h : gi_H} {k : Nat} {x : va_E} : gc_w ct ad (h.set (k + 1) x) = (gc_w ct ad h).set k (ad (k + 1), gc_e ct ad x) := by
  unfold gc_w
  cases h with
  | nil => simp [gc_wf]
  | cons y t =>
    rw [List.set_cons_succ, List.tail_cons, List.tail_cons, gc_wf_set, show 1 + k = k + 1 by omega]
/-! references are in the heap -/
def gi_wv (n : Nat) : Value → Prop
  | .ref k => k < n
  | _ => True
def gi_ws (n : Nat) (st : List Value) : Prop := ∀ v ∈ st, gi_wv n v
def gi_wl (n : Nat) (lv : gi_Lv) : Prop := ∀ i v, gi_ld lv i = some v → gi_wv n v
def gi_we (n : Nat) : va_E → Prop
  | .inl (_, _, .inr (.inr (.inr (.inr f)))) => ∀ j k, f j = some k → k < n
  | .inl _ => True
  | .inr (_, fs) => gi_ws n fs
def gi_wh (h : gi_H) : Prop := ∀ (o : Nat) (e : va_E), h[o]? = some e → gi_we h.length e
theorem gi_wv.mono {n m : Nat} (hnm : n ≤ m) {v : Value} (h : gi_wv n v) : gi_wv m v := by
  cases v with
  | ref k => exact Nat.lt_of_lt_of_le h hnm
  | _ => trivial
theorem gi_ws.mono {n m : Nat} (hnm : n ≤ m) {st : List Value} (h : gi_ws n st) : gi_ws m st := fun v hv => (h v hv).mono hnm
theorem gi_wl.mono {n m : Nat} (hnm : n ≤ m) {lv : gi_Lv} (h : gi_wl n lv) : gi_wl m lv := fun i v hv => (h i v hv).mono hnm
theorem gi_we.mono {n m : Nat} (hnm : n ≤ m) {e : va_E} (h : gi_we n e) : gi_we m e := by
  match e, h with
  | .inl (_, _, .inr (.inr (.inr (.inr f)))), h => exact fun j k hk => Nat.lt_of_lt_of_le (h j k hk) hnm
  | .inl (_, _, .inl _), _ => trivial
  | .inl (_, _, .inr (.inl _)), _ => trivial
  | .inl (_, _, .inr (.inr (.inl _))), _ => trivial
  | .inl (_, _, .inr (.inr (.inr (.inl _)))), _ => trivial
  | .inr (_, fs), h => exact gi_ws.mono hnm h
theorem gc_v_ag {ad ad' : Nat → Nat} {n : Nat} (ag : ∀ k, k < n → ad' k = ad k) {v : Value} (h : gi_wv n v) : gc_v ad' v = gc_v ad v := by
  cases v with
  | ref k => exact congrArg Value.ref (ag k h)
  | _ => rfl
theorem gc_s_ag {ad ad' : Nat → Nat} {n : Nat} (ag : ∀ k, k < n → ad' k = ad k) {st : List Value} (h : gi_ws n st) : st.map (gc_v ad') = st.map (gc_v ad) := List.map_congr_left fun v hv => gc_v_ag ag (h v hv)
theorem gc_e_ag {ct : Nat → ClassId} {ad ad' : Nat → Nat} {n : Nat} (ag : ∀ k, k < n → ad' k = ad k) {e : va_E} (h : gi_we n e) : gc_e ct ad' e = gc_e ct ad e := by
  match e, h with
  | .inl (t, m, .inr (.inr (.inr (.inr f)))), h =>
    simp only [gc_e, gc_a]
    have : (fun j => (f j).map ad') = (fun j => (f j).map ad) := by
      funext j
      cases hf : f j with
      | none => rfl
      | some k => exact congrArg some (ag k (h j k hf))
    rw [this]
  | .inl (_, _, .inl _), _ => rfl
  | .inl (_, _, .inr (.inl _)), _ => rfl
  | .inl (_, _, .inr (.inr (.inl _))), _ => rfl
  | .inl (_, _, .inr (.inr (.inr (.inl _)))), _ => rfl
  | .inr (c, fs), h =>
    simp only [gc_e]
    rw [gc_s_ag ag h]
theorem gc_wf_ag {ct : Nat → ClassId} {ad ad' : Nat → Nat} {n : Nat} (ag : ∀ k, k < n → ad' k = ad k) : ∀ (l : gi_H) (k : Nat), (∀ e ∈ l, gi_we n e) → k + l.length ≤ n → gc_wf ct ad' k l = gc_wf ct ad k l := by
  intro l
  induction l with
  | nil => intro k _ _; rfl
  | cons e t ih =>
    intro k hw hk
    simp only [List.length_cons] at hk
    simp only [gc_wf]
    rw [ag k (by omega), gc_e_ag ag (hw e List.mem_cons_self), ih (k + 1) (fun x hx => hw x (List.mem_cons_of_mem _ hx)) (by omega)]
theorem gi_wh_mem {h : gi_H} (w : gi_wh h) : ∀ e ∈ h, gi_we h.length e := fun e he => by
  obtain ⟨o, ho⟩ := List.getElem?_of_mem he
  exact w o e ho
/-- one more cell at the address q -/
theorem gc_w_app {ct : Nat → ClassId} {ad : Nat → Nat} {h : gi_H} (h0 : gi_h0 h) (w : gi_wh h) (q : Nat) {x : va_E} {y : va_E} (hx : gc_e ct (va_up ad h.length q) x = y) : gc_w ct (va_up ad h.length q) (h ++ [x]) = gc_w ct ad h ++ [(q, y)] := by
  have ag : ∀ k, k < h.length → va_up ad h.length q k = ad k := fun k hk => by simp [va_up, Nat.ne_of_lt hk]
  unfold gc_w
  cases h with
  | nil => obtain ⟨⟨_, hh⟩, -⟩ := h0; simp at hh
  | cons e t =>
    rw [List.cons_append, List.tail_cons, List.tail_cons, gc_wf_app, gc_wf_ag ag t 1 (fun z hz => gi_wh_mem w z (List.mem_cons_of_mem _ hz)) (by simp; omega), hx]
    congr 3
    simp [va_up, Nat.add_comm]
/-! slots -/
def gi_sl : va_E → Nat
  | .inl (_, n, _) => n
  | .inr (c, _) => gi_N c
def gi_slots : gi_H → Nat
  | [] => 0
  | e :: t => gi_sl e + gi_slots t
theorem gi_slots_app (h : gi_H) (x : va_E) : gi_slots (h ++ [x]) = gi_slots h + gi_sl x := by
  induction h with
  | nil => simp [gi_slots]
  | cons e t ih => simp only [List.cons_append, gi_slots, ih]; omega
theorem gi_slots_set {x e : va_E} (hx : gi_sl x = gi_sl e) : ∀ {h : gi_H} {o : Nat}, h[o]? = some e → gi_slots (h.set o x) = gi_slots h := by
  intro h
  induction h with
  | nil => intro o ho; simp at ho
  | cons y t ih =>
    intro o ho
    cases o with
    | zero =>
      simp only [List.getElem?_cons_zero, Option.some.injEq] at ho
      simp only [List.set_cons_zero, gi_slots, hx, ho]
    | succ o =>
      rw [List.getElem?_cons_succ] at ho
      simp only [List.set_cons_succ, gi_slots, ih ho]
/-! locals -/
def gi_L (ls : Array Slot) (nL : Nat) (ad : Nat → Nat) (lv : gi_Lv) : Prop := lv.length = nL ∧ ls.size = nL ∧ lv_wf ls ∧ ∀ i v, gi_ld lv i = some v → ls[i]? = some (.val (gc_v ad v))
def gi_ent (ad : Nat → Nat) (lv : gi_Lv) : List (Nat × Value) := (List.range lv.length).filterMap (fun i => (gi_ld lv i).map (fun v => (i, gc_v ad v)))
theorem gi_ld_lt : ∀ {lv : gi_Lv} {i : Nat} {v : Value}, gi_ld lv i = some v → i < lv.length := by
  intro lv
  induction lv with
  | nil => intro i v h; cases i <;> simp [gi_ld] at h
  | cons o t ih =>
    intro i v h
    cases i with
    | zero => simp
    | succ i => simp only [gi_ld] at h; simp only [List.length_cons]; exact Nat.succ_lt_succ (ih h)
theorem gi_ent_mem {ad : Nat → Nat} {lv : gi_Lv} {i : Nat} {v : Value} (h : gi_ld lv i = some v) : (i, gc_v ad v) ∈ gi_ent ad lv := by
  unfold gi_ent
  refine List.mem_filterMap.mpr ⟨i, List.mem_range.mpr (gi_ld_lt h), ?_⟩
  rw [h]
  rfl
theorem gi_L.has {ls : Array Slot} {nL : Nat} {ad : Nat → Nat} {lv : gi_Lv} (h : gi_L ls nL ad lv) : lv_has ls nL (gi_ent ad lv) := by
  refine ⟨h.2.1, h.2.2.1, fun q hq => ?_⟩
  obtain ⟨i, -, hi⟩ := List.mem_filterMap.mp hq
  cases hv : gi_ld lv i with
  | none => rw [hv] at hi; cases hi
  | some v =>
    rw [hv] at hi
    cases hi
    exact h.2.2.2 i v hv
theorem gi_s1_spec : ∀ {lv : gi_Lv} {i : Nat} {v : Value} {lv' : gi_Lv}, gi_s1 lv i v = some lv' → lv'.length = lv.length ∧ i < lv.length ∧ ∀ j w, gi_ld lv' j = some w → (j = i ∧ w = v) ∨ (j ≠ i ∧ gi_ld lv j = some w ∧ ¬ (j + 1 = i ∧ w.category = 2)) := by
  intro lv
  induction lv with
  | nil => intro i v lv' h; cases i <;> simp [gi_s1] at h
  | cons o t ih =>
    intro i v lv' h
    match i, h with
    | 0, h =>
      simp only [gi_s1, Option.some.injEq] at h
      subst h
      refine ⟨rfl, by simp, fun j w hj => ?_⟩
      cases j with
      | zero => simp only [gi_ld, Option.some.injEq] at hj; exact Or.inl ⟨rfl, hj.symm⟩
      | succ j => simp only [gi_ld] at hj; exact Or.inr ⟨by omega, hj, by omega⟩
    | 1, h =>
      cases t with
      | nil => simp [gi_s1] at h
      | cons o2 t2 =>
        simp only [gi_s1, Option.some.injEq] at h
        subst h
        refine ⟨rfl, by simp, fun j w hj => ?_⟩
        match j, hj with
        | 0, hj =>
          simp only [gi_ld] at hj
          refine Or.inr ⟨by omega, ?_, fun hc => ?_⟩
          · cases o with
            | none => cases hj
            | some z => cases z <;> simp [gi_cl] at hj <;> simp [gi_ld, hj]
          · cases o with
            | none => cases hj
            | some z => cases z <;> simp [gi_cl] at hj <;> (subst hj; simp [Value.category] at hc)
        | 1, hj => simp only [gi_ld, Option.some.injEq] at hj; exact Or.inl ⟨rfl, hj.symm⟩
        | j + 2, hj => simp only [gi_ld] at hj; exact Or.inr ⟨by omega, hj, by omega⟩
    | n + 2, h =>
      simp only [gi_s1] at h
      cases h1 : gi_s1 t (n + 1) v with
      | none => rw [h1] at h; cases h
      | some t' =>
        rw [h1] at h
        simp only [Option.some.injEq] at h
        subst h
        obtain ⟨a1, a2, a3⟩ := ih h1
        refine ⟨by simp [a1], by simp; omega, fun j w hj => ?_⟩
        cases j with
        | zero => simp only [gi_ld] at hj; exact Or.inr ⟨by omega, hj, by omega⟩
        | succ j =>
          simp only [gi_ld] at hj
          rcases a3 j w hj with ⟨b1, b2⟩ | ⟨b1, b2, b3⟩
          · exact Or.inl ⟨by omega, b2⟩
          · exact Or.inr ⟨by omega, b2, fun hc => b3 ⟨by omega, hc.2⟩⟩
theorem gi_s2_spec : ∀ {lv : gi_Lv} {i : Nat} {v : Value} {lv' : gi_Lv}, gi_s2 lv i v = some lv' → lv'.length = lv.length ∧ i + 1 < lv.length ∧ ∀ j w, gi_ld lv' j = some w → (j = i ∧ w = v) ∨ (j ≠ i ∧ j ≠ i + 1 ∧ gi_ld lv j = some w ∧ ¬ (j + 1 = i ∧ w.category = 2)) := by
  intro lv
  induction lv with
  | nil => intro i v lv' h; cases i <;> simp [gi_s2] at h
  | cons o t ih =>
    intro i v lv' h
    match i, h with
    | 0, h =>
      cases t with
      | nil => simp [gi_s2] at h
      | cons o2 t2 =>
        simp only [gi_s2, Option.some.injEq] at h
        subst h
        refine ⟨rfl, by simp, fun j w hj => ?_⟩
        match j, hj with
        | 0, hj => simp only [gi_ld, Option.some.injEq] at hj; exact Or.inl ⟨rfl, hj.symm⟩
        | 1, hj => simp [gi_ld] at hj
        | j + 2, hj => simp only [gi_ld] at hj; exact Or.inr ⟨by omega, by omega, hj, by omega⟩
    | 1, h =>
      match t, h with
      | [], h => simp [gi_s2] at h
      | [_], h => simp [gi_s2] at h
      | o2 :: o3 :: t2, h =>
        simp only [gi_s2, Option.some.injEq] at h
        subst h
        refine ⟨rfl, by simp, fun j w hj => ?_⟩
        match j, hj with
        | 0, hj =>
          simp only [gi_ld] at hj
          refine Or.inr ⟨by omega, by omega, ?_, fun hc => ?_⟩
          · cases o with
            | none => cases hj
            | some z => cases z <;> simp [gi_cl] at hj <;> simp [gi_ld, hj]
          · cases o with
            | none => cases hj
            | some z => cases z <;> simp [gi_cl] at hj <;> (subst hj; simp [Value.category] at hc)
        | 1, hj => simp only [gi_ld, Option.some.injEq] at hj; exact Or.inl ⟨rfl, hj.symm⟩
        | 2, hj => simp [gi_ld] at hj
        | j + 3, hj => simp only [gi_ld] at hj; exact Or.inr ⟨by omega, by omega, hj, by omega⟩
    | n + 2, h =>
      simp only [gi_s2] at h
      cases h1 : gi_s2 t (n + 1) v with
      | none => rw [h1] at h; cases h
      | some t' =>
        rw [h1] at h
        simp only [Option.some.injEq] at h
        subst h
        obtain ⟨a1, a2, a3⟩ := ih h1
        refine ⟨by simp [a1], by simp; omega, fun j w hj => ?_⟩
        cases j with
        | zero => simp only [gi_ld] at hj; exact Or.inr ⟨by omega, by omega, hj, by omega⟩
        | succ j =>
          simp only [gi_ld] at hj
          rcases a3 j w hj with ⟨b1, b2⟩ | ⟨b1, b2, b3, b4⟩
          · exact Or.inl ⟨by omega, b2⟩
          · exact Or.inr ⟨by omega, by omega, b3, fun hc => b4 ⟨by omega, hc.2⟩⟩
theorem gi_L.st1 {ls ls' : Array Slot} {nL i : Nat} {ad : Nat → Nat} {lv lv' : gi_Lv} {v : Value} (h : gi_L ls nL ad lv) (hs : gi_s1 lv i v = some lv') (h' : lv_has ls' nL ((i, gc_v ad v) :: (gi_ent ad lv).filter (fun q => !(q.1 == i) && !(q.1 + 1 == i && q.2.category == 2)))) : gi_L ls' nL ad lv' := by
  obtain ⟨a1, a2, a3⟩ := gi_s1_spec hs
  refine ⟨a1.trans h.1, h'.1, h'.2.1, fun j w hj => ?_⟩
  refine h'.2.2 (j, gc_v ad w) ?_
  rcases a3 j w hj with ⟨b1, b2⟩ | ⟨b1, b2, b3⟩
  · subst b1; subst b2; exact List.mem_cons_self
  · refine List.mem_cons_of_mem _ (List.mem_filter.mpr ⟨gi_ent_mem b2, ?_⟩)
    simp only [gc_cat]
    by_cases hji : j + 1 = i
    · have hc : ¬ w.category = 2 := fun z => b3 ⟨hji, z⟩
      simp [b1, hc]
    · simp [b1, hji]
theorem gi_L.st2 {ls ls' : Array Slot} {nL i : Nat} {ad : Nat → Nat} {lv lv' : gi_Lv} {v : Value} (h : gi_L ls nL ad lv) (hs : gi_s2 lv i v = some lv') (h' : lv_has ls' nL ((i, gc_v ad v) :: (gi_ent ad lv).filter (fun q => !(q.1 == i) && (!(q.1 == i + 1) && !(q.1 + 1 == i && q.2.category == 2))))) : gi_L ls' nL ad lv' := by
  obtain ⟨a1, a2, a3⟩ := gi_s2_spec hs
  refine ⟨a1.trans h.1, h'.1, h'.2.1, fun j w hj => ?_⟩
  refine h'.2.2 (j, gc_v ad w) ?_
  rcases a3 j w hj with ⟨b1, b2⟩ | ⟨b1, b2, b3, b4⟩
  · subst b1; subst b2; exact List.mem_cons_self
  · refine List.mem_cons_of_mem _ (List.mem_filter.mpr ⟨gi_ent_mem b3, ?_⟩)
    simp only [gc_cat]
    by_cases hji : j + 1 = i
    · have hc : ¬ w.category = 2 := fun z => b4 ⟨hji, z⟩
      simp [b1, b2, hc]
    · simp [b1, b2, hji]
theorem gi_L.ag {ls : Array Slot} {nL n : Nat} {ad ad' : Nat → Nat} {lv : gi_Lv} (h : gi_L ls nL ad lv) (ag : ∀ k, k < n → ad' k = ad k) (hw : gi_wl n lv) : gi_L ls nL ad' lv := ⟨h.1, h.2.1, h.2.2.1, fun i v hv => by rw [gc_v_ag ag (hw i v hv)]; exact h.2.2.2 i v hv⟩
/-- a method's first locals -/
theorem gi_en0_args (ad : Nat → Nat) : ∀ (as : List Value) (i j : Nat) (v : Value), gi_ld (gi_en0 as) j = some v → (i + j, gc_v ad v) ∈ lv_args i (as.map (gc_v ad)) := by
  intro as
  induction as with
  | nil => intro i j v h; cases j <;> simp [gi_en0, gi_ld] at h
  | cons a t ih =>
    intro i j v h
    have one : ∀ (hc : a.category = 1) (he : gi_en0 (a :: t) = some a :: gi_en0 t), (i + j, gc_v ad v) ∈ lv_args i ((a :: t).map (gc_v ad)) := by
      intro hc he
      rw [he] at h
      simp only [List.map_cons, lv_args, gc_cat, hc]
      cases j with
      | zero => simp only [gi_ld, Option.some.injEq] at h; subst h; exact List.mem_cons_self
      | succ j =>
        simp only [gi_ld] at h
        have := ih (i + 1) j v h
        refine List.mem_cons_of_mem _ ?_
        rw [if_neg (by decide), show i + (j + 1) = i + 1 + j by omega]
        exact this
    have two : ∀ (hc : a.category = 2) (he : gi_en0 (a :: t) = some a :: none :: gi_en0 t), (i + j, gc_v ad v) ∈ lv_args i ((a :: t).map (gc_v ad)) := by
      intro hc he
      rw [he] at h
      simp only [List.map_cons, lv_args, gc_cat, hc]
      match j, h with
      | 0, h => simp only [gi_ld, Option.some.injEq] at h; subst h; exact List.mem_cons_self
      | 1, h => simp [gi_ld] at h
      | j + 2, h =>
        simp only [gi_ld] at h
        have := ih (i + 2) j v h
        refine List.mem_cons_of_mem _ ?_
        rw [if_pos trivial, show i + (j + 2) = i + 2 + j by omega]
        exact this
    cases a with
    | long x => exact two rfl rfl
    | double x => exact two rfl rfl
    | int x => exact one rfl rfl
    | float x => exact one rfl rfl
    | null => exact one rfl rfl
    | ref x => exact one rfl rfl
    | retAddr x => exact one rfl rfl
theorem gi_pad_len : ∀ (n : Nat) (l : gi_Lv), (gi_pad n l).length = n := by
  intro n
  induction n with
  | zero => intro l; rfl
  | succ n ih => intro l; cases l <;> simp [gi_pad, ih]
theorem gi_pad_ld : ∀ (n : Nat) (l : gi_Lv) (i : Nat) (v : Value), gi_ld (gi_pad n l) i = some v → gi_ld l i = some v := by
  intro n
  induction n with
  | zero => intro l i v h; cases i <;> simp [gi_pad, gi_ld] at h
  | succ n ih =>
    intro l i v h
    cases l with
    | nil =>
      cases i with
      | zero => simp [gi_pad, gi_ld] at h
      | succ i => simp only [gi_pad, gi_ld] at h; have := ih [] i v h; cases i <;> simp [gi_ld] at this
    | cons o t =>
      cases i with
      | zero => simpa [gi_pad, gi_ld] using h
      | succ i => simp only [gi_pad, gi_ld] at h ⊢; exact ih t i v h
theorem gi_en0_len (ad : Nat → Nat) : ∀ as : List Value, (lg_sl (as.map (gc_v ad))).length = (gi_en0 as).length := by
  intro as
  induction as with
  | nil => rfl
  | cons a t ih =>
    have e : lg_sl ((a :: t).map (gc_v ad)) = (if (gc_v ad a).category = 2 then [Slot.val (gc_v ad a), .second] else [.val (gc_v ad a)]) ++ lg_sl (t.map (gc_v ad)) := rfl
    rw [e, List.length_append, ih]
    cases a <;> simp [gi_en0, gc_v, Value.category] <;> omega
theorem gi_L.entry {as : List Value} {n : Nat} (ad : Nat → Nat) (hl : (gi_en0 as).length ≤ n) : gi_L ((lg_sl (as.map (gc_v ad)) ++ List.replicate (n - (lg_sl (as.map (gc_v ad))).length) Slot.unset).toArray) n ad (gi_en n as) := by
  have h := lv_entry (as.map (gc_v ad)) (n := n) (by rw [gi_en0_len]; exact hl)
  refine ⟨gi_pad_len _ _, h.1, h.2.1, fun i v hv => ?_⟩
  have := gi_en0_args ad as 0 i v (gi_pad_ld _ _ _ _ hv)
  rw [Nat.zero_add] at this
  exact h.2.2 (i, gc_v ad v) this
theorem gi_wl.entry {as : List Value} {n k : Nat} (h : gi_ws k as) : gi_wl k (gi_en n as) := by
  intro i v hv
  have h1 := gi_pad_ld _ _ _ _ hv
  clear hv
  induction as generalizing i with
  | nil => cases i <;> simp [gi_en0, gi_ld] at h1
  | cons a t ih =>
    have ht : gi_ws k t := fun z hz => h z (List.mem_cons_of_mem _ hz)
    have ha := h a List.mem_cons_self
    have key : (v = a) ∨ ∃ i', gi_ld (gi_en0 t) i' = some v := by
      cases a <;> (match i, h1 with
        | 0, h1 => simp only [gi_en0, gi_ld, Option.some.injEq] at h1; exact Or.inl h1.symm
        | 1, h1 => simp only [gi_en0, gi_ld] at h1; first | exact Or.inr ⟨_, h1⟩ | cases h1
        | i + 2, h1 => simp only [gi_en0, gi_ld] at h1; first | exact Or.inr ⟨_, h1⟩ | exact Or.inr ⟨i + 1, h1⟩)
    rcases key with rfl | ⟨i', hi'⟩
    · exact ha
    · exact ih ht i' hi'
