/-! FROM THE INTERPRETER TO THE MACHINE, 3: one instruction that calls nothing -/
abbrev gi_tyl (ct : Nat → ClassId) : List (ClassId × FieldType) := [(ct 0, .int), (ct 1, .long), (ct 2, .boolean), (ct 3, .object gi_Bk)]
/-- where a method runs -/
def gi_C (D : va_G) (ct : Nat → ClassId) (M : gi_M) (p : Program) (R : Room) (s : State) (m : MethodId) (args : Array Value) (meth : Method) (c : Code) : Prop :=
  p.tables.exec = Jvm.exec ∧ c.code = gi_code M ∧ meth.sig.returnType = gi_ret M ∧ c.maxLocals = gi_maxL M ∧ s.vm.findClass (gi_own M) = some m.cls ∧ (∀ w ∈ gi_AW, w.before args s = true) ∧ gi_NW s ∧ va_K D gi_cls (gi_tyl ct) s ∧ meth.locks = false ∧ meth.name = (gi_name M).name ∧ gi_rk M ≤ R.frames ∧ 41 * gi_rk M ≤ R.locals
def gi_Wd (D : va_G) (ct : Nat → ClassId) (A : Nat → Prop) (s : State) (n0 s0 : Nat) (ad : Nat → Nat) (h : gi_H) (H : Heap) (locs : List Loc) (cells slots : Nat) : Prop :=
  va_P D gi_cls (gc_w ct ad h) H ∧ va_D A (gc_w ct ad h) ∧ va_S A s.heap H locs ∧ cells + n0 = h.length ∧ slots + s0 = gi_slots h
theorem gi_tg_inv {pc t : Nat} {off : Int} (e : gi_tg pc off = some t) : (pc : Int) + off = (t : Int) := by
  unfold gi_tg at e
  split at e
  · rename_i k hk; cases e; exact hk
  · cases e
theorem gi_kd_fit {k v : Value} {ty : FieldType} (ad : Nat → Nat) (h1 : gi_kd k v = true) (h2 : gi_kok k ty = true) : narrow ty (gc_v ad v) = gc_v ad v ∧ fits ty (gc_v ad v) = true := by
  unfold gi_kd at h1
  split at h1
  · cases ty <;> first | exact ⟨rfl, rfl⟩ | cases h2
  · cases ty <;> first | exact ⟨rfl, rfl⟩ | cases h2
  · cases ty <;> first | exact ⟨rfl, rfl⟩ | cases h2
  · rcases decide_eq_true_eq.mp h1 with rfl | rfl <;> cases ty <;> first | exact ⟨rfl, rfl⟩ | (exact ⟨show narrow .boolean (.int _) = .int _ by decide, show fits .boolean (.int _) = true by decide⟩) | cases h2
  · cases h1
theorem gc_map_get {ad : Nat → Nat} {fs : List Value} {k : Nat} {v : Value} (h : fs[k]? = some v) : (fs.map (gc_v ad))[k]? = some (gc_v ad v) := by rw [List.getElem?_map, h]; rfl
section GST
variable {pr : Nat → gi_M} {top : Bool} {M : gi_M} {D : va_G} {ct : Nat → ClassId} {p : Program} {l : Launch} {e : Env} {R : Room} {s : State} {m : MethodId} {args : Array Value} {below : List Frame} {meth : Method} {c : Code} {Q : State → Prop} {A : Nat → Prop} {b0 L : Nat} {xs : Nat → Int32}
variable {ad : Nat → Nat} {ls : Array Slot} {lv : gi_Lv} {st : List Value} {h : gi_H} {H : Heap} {locs : List Loc} {cells slots n0 s0 : Nat} {r : gi_I} {pc pc' : Nat} {lv' : gi_Lv} {st' : List Value} {h' : gi_H}
set_option maxHeartbeats 8000000 in
theorem gi_stepW (C : gi_C D ct M p R s m args meth c) (hA : ∀ q, s.heap.size ≤ q → A q) (hX : top = true → va_X b0 L xs s s.heap ∧ b0 < s.heap.size ∧ ¬ A b0) (hsc : top = true → ad 0 = b0 ∧ h[0]? = some (.inl (9, L, .inl xs)))
    (hl : gi_L ls (gi_maxL M) ad lv) (hw : gi_Wd D ct A s n0 s0 ad h H locs cells slots) (wh : gi_wh h) (wl : gi_wl h.length lv) (ws : gi_ws h.length st) (h0 : gi_h0 h)
    (hd : decode (gi_code M) pc = .ok (r.1, gi_len r.1 r.2.2.1)) (hok : gi_okI top pr M pc r = true) (g : gi_go gi_df (gi_ret M) r pc lv st h = some (.inl (pc', lv', st', h'))) (hRc : h'.length ≤ n0 + R.cells) (hRs : gi_slots h' ≤ s0 + R.slots)
    (kk : ∀ (ls' : Array Slot) (ad' : Nat → Nat) (H' : Heap) (locs' : List Loc) (cells' slots' : Nat), (∀ k, k < h.length → ad' k = ad k) → gi_L ls' (gi_maxL M) ad' lv' → gi_Wd D ct A s n0 s0 ad' h' H' locs' cells' slots' → W p l e R s m args below meth c H' locs' cells' slots' Q (F0 m pc' ls' (st'.map (gc_v ad')))) :
    W p l e R s m args below meth c H locs cells slots Q (F0 m pc ls (st.map (gc_v ad))) := by
  obtain ⟨hx, hb, hr, hml, hown, hts, hNW, hK, hlocks, hnm, hfr, hlo⟩ := C
  obtain ⟨hP, hD, hS, hcc, hss⟩ := hw
  have same : W p l e R s m args below meth c H locs cells slots Q (F0 m pc' ls (st'.map (gc_v ad))) ∨ True := Or.inr trivial
  obtain ⟨ins, a, b, v⟩ := r
  have k0 : lv' = lv → h' = h → W p l e R s m args below meth c H locs cells slots Q (F0 m pc' ls (st'.map (gc_v ad))) := by
    intro q1 q2
    subst q1; subst q2
    exact kk ls ad H locs cells slots (fun _ _ => rfl) hl ⟨hP, hD, hS, hcc, hss⟩
  have k1 : ∀ {i : Nat} {z : Value}, gi_s1 lv i z = some lv' → h' = h → ∀ ls', lv_has ls' (gi_maxL M) ((i, gc_v ad z) :: (gi_ent ad lv).filter (fun q => !(q.1 == i) && !(q.1 + 1 == i && q.2.category == 2))) → W p l e R s m args below meth c H locs cells slots Q (F0 m pc' ls' (st'.map (gc_v ad))) := by
    intro i z q1 q2 ls' q3
    subst q2
    exact kk ls' ad H locs cells slots (fun _ _ => rfl) (hl.st1 q1 q3) ⟨hP, hD, hS, hcc, hss⟩
  have k2 : ∀ {i : Nat} {z : Value}, gi_s2 lv i z = some lv' → h' = h → ∀ ls', lv_has ls' (gi_maxL M) ((i, gc_v ad z) :: (gi_ent ad lv).filter (fun q => !(q.1 == i) && (!(q.1 == i + 1) && !(q.1 + 1 == i && q.2.category == 2)))) → W p l e R s m args below meth c H locs cells slots Q (F0 m pc' ls' (st'.map (gc_v ad))) := by
    intro i z q1 q2 ls' q3
    subst q2
    exact kk ls' ad H locs cells slots (fun _ _ => rfl) (hl.st2 q1 q3) ⟨hP, hD, hS, hcc, hss⟩
  have k3 : ∀ {o : Nat} {x y : va_E}, lv' = lv → h' = h.set (o + 1) x → h[o + 1]? = some y → gi_sl x = gi_sl y → ∀ (H1 : Heap) (locs1 : List Loc), va_P D gi_cls ((gc_w ct ad h).set o (ad (o + 1), gc_e ct ad x)) H1 → va_D A ((gc_w ct ad h).set o (ad (o + 1), gc_e ct ad x)) → va_S A s.heap H1 locs1 → W p l e R s m args below meth c H1 locs1 cells slots Q (F0 m pc' ls (st'.map (gc_v ad))) := by
    intro o x y q1 q2 q4 q3 H1 locs1 hP1 hD1 hS1
    subst q1; subst q2
    exact kk ls ad H1 locs1 cells slots (fun _ _ => rfl) hl ⟨by rw [gc_w_set]; exact hP1, by rw [gc_w_set]; exact hD1, hS1, by rw [List.length_set]; exact hcc, by rw [gi_slots_set q3 q4]; exact hss⟩
  have k4 : ∀ {x : va_E} {y : va_E} {sl : Nat} {rest : List Value}, lv' = lv → h' = h ++ [x] → st' = .ref h.length :: rest → gi_ws h.length rest → (∀ ad2, gc_e ct ad2 x = y) → gi_sl x = sl → ∀ (q : Nat) (H1 : Heap), va_P D gi_cls (gc_w ct ad h ++ [(q, y)]) H1 → va_D A (gc_w ct ad h ++ [(q, y)]) → va_S A s.heap H1 locs → W p l e R s m args below meth c H1 locs (cells + 1) (slots + sl) Q (F0 m pc' ls (.ref q :: rest.map (gc_v ad))) := by
    intro x y sl rest q1 q2 q5 q6 q3 q4 q H1 hP1 hD1 hS1
    subst q1; subst q2; subst q5
    have ag : ∀ k, k < h.length → va_up ad h.length q k = ad k := fun k hk => by simp [va_up, Nat.ne_of_lt hk]
    have e1 : (Value.ref h.length :: rest).map (gc_v (va_up ad h.length q)) = .ref q :: rest.map (gc_v ad) := by
      rw [List.map_cons, gc_s_ag ag q6]
      simp [gc_v, va_up]
    have := kk ls (va_up ad h.length q) H1 locs (cells + 1) (slots + sl) ag (hl.ag ag wl) ⟨by rw [gc_w_app h0 wh q (q3 _)]; exact hP1, by rw [gc_w_app h0 wh q (q3 _)]; exact hD1, hS1, by simp; omega, by rw [gi_slots_app]; omega⟩
    rw [e1] at this
    exact this
  cases ins with
  | iconst n =>
    simp only [gi_okI, gi_okIP, decide_eq_true_eq] at hok
    subst hok
    cases g
    exact lv_iconst hx hb hd rfl (k0 rfl rfl)
  | lconst n =>
    simp only [gi_okI, gi_okIP, decide_eq_true_eq] at hok
    subst hok
    cases g
    exact lv_lconst hx hb hd rfl (k0 rfl rfl)
  | bipush n =>
    simp only [gi_okI, gi_okIP, decide_eq_true_eq] at hok
    subst hok
    cases g
    exact lv_bipush hx hb hd rfl (k0 rfl rfl)
  | sipush n =>
    simp only [gi_okI, gi_okIP, decide_eq_true_eq] at hok
    subst hok
    cases g
    exact lv_sipush hx hb hd rfl (k0 rfl rfl)
  | ldc n =>
    cases g
    cases v with
    | int x => exact lv_ldc hx hb hown (hts _ (gi_in_mem hok)) hd (k0 rfl rfl)
    | _ => cases hok
  | ldc_w n =>
    cases g
    cases v with
    | int x => exact lv_ldcw hx hb hown (hts _ (gi_in_mem hok)) hd (k0 rfl rfl)
    | _ => cases hok
  | ldc2_w n =>
    cases g
    cases v with
    | long x => exact lv_ldc2 hx hb hown (hts _ (gi_in_mem hok)) hd (k0 rfl rfl)
    | _ => cases hok
  | iload_n n =>
    simp only [gi_okI, gi_okIP, decide_eq_true_eq] at hok
    simp only [gi_go] at g
    split at g
    · rename_i hq
      cases g
      exact lv_iload_n hx hb hd hok (hl.2.2.2 _ _ hq) (k0 rfl rfl)
    · cases g
  | lload_n n =>
    simp only [gi_okI, gi_okIP, decide_eq_true_eq] at hok
    simp only [gi_go] at g
    split at g
    · rename_i hq
      cases g
      exact lv_lload_n hx hb hd hok (hl.2.2.2 _ _ hq) (k0 rfl rfl)
    · cases g
  | aload_n n =>
    simp only [gi_okI, gi_okIP, decide_eq_true_eq] at hok
    simp only [gi_go] at g
    split at g
    · rename_i hq
      cases g
      exact lv_aload_n hx hb hd hok (hl.2.2.2 _ _ hq) (k0 rfl rfl)
    · rename_i hq
      cases g
      exact lv_aload_nN hx hb hd hok (hl.2.2.2 _ _ hq) (k0 rfl rfl)
    · cases g
  | iload n =>
    simp only [gi_okI, gi_okIP, decide_eq_true_eq] at hok
    subst hok
    simp only [gi_go] at g
    split at g
    · rename_i hq
      cases g
      exact lv_iload hx hb hd (hl.2.2.2 _ _ hq) (k0 rfl rfl)
    · cases g
  | lload n =>
    simp only [gi_okI, gi_okIP, decide_eq_true_eq] at hok
    subst hok
    simp only [gi_go] at g
    split at g
    · rename_i hq
      cases g
      exact lv_lload hx hb hd (hl.2.2.2 _ _ hq) (k0 rfl rfl)
    · cases g
  | istore_n n =>
    simp only [gi_okI, gi_okIP, decide_eq_true_eq] at hok
    simp only [gi_go] at g
    split at g
    · obtain ⟨q1, rfl, rfl, rfl⟩ := gi_kl_inv g
      exact lv_istore_n hx hb hd hok hl.has (by rw [← hl.1]; exact (gi_s1_spec q1).2.1) rfl (fun ls' q => k1 q1 rfl ls' q)
    · cases g
  | lstore_n n =>
    simp only [gi_okI, gi_okIP, decide_eq_true_eq] at hok
    simp only [gi_go] at g
    split at g
    · obtain ⟨q1, rfl, rfl, rfl⟩ := gi_kl_inv g
      exact lv_lstore_n hx hb hd hok hl.has (by rw [← hl.1]; exact (gi_s2_spec q1).2.1) rfl (fun ls' q => k2 q1 rfl ls' q)
    · cases g
  | astore_n n =>
    simp only [gi_okI, gi_okIP, decide_eq_true_eq] at hok
    simp only [gi_go] at g
    split at g
    · obtain ⟨q1, rfl, rfl, rfl⟩ := gi_kl_inv g
      exact lv_astore_n hx hb hd hok hl.has (by rw [← hl.1]; exact (gi_s1_spec q1).2.1) rfl (fun ls' q => k1 q1 rfl ls' q)
    · obtain ⟨q1, rfl, rfl, rfl⟩ := gi_kl_inv g
      exact lv_astore_nN hx hb hd hok hl.has (by rw [← hl.1]; exact (gi_s1_spec q1).2.1) rfl (fun ls' q => k1 q1 rfl ls' q)
    · cases g
  | istore n =>
    simp only [gi_okI, gi_okIP, decide_eq_true_eq] at hok
    subst hok
    simp only [gi_go] at g
    split at g
    · obtain ⟨q1, rfl, rfl, rfl⟩ := gi_kl_inv g
      exact lv_istore hx hb hd hl.has (by rw [← hl.1]; exact (gi_s1_spec q1).2.1) rfl (fun ls' q => k1 q1 rfl ls' q)
    · cases g
  | lstore n =>
    simp only [gi_okI, gi_okIP, decide_eq_true_eq] at hok
    subst hok
    simp only [gi_go] at g
    split at g
    · obtain ⟨q1, rfl, rfl, rfl⟩ := gi_kl_inv g
      exact lv_lstore hx hb hd hl.has (by rw [← hl.1]; exact (gi_s2_spec q1).2.1) rfl (fun ls' q => k2 q1 rfl ls' q)
    · cases g
  | iinc i n =>
    simp only [gi_okI, gi_okIP, Bool.and_eq_true, decide_eq_true_eq] at hok
    obtain ⟨rfl, rfl⟩ := hok
    simp only [gi_go] at g
    split at g
    · rename_i x c' hq hc
      cases hc
      obtain ⟨q1, rfl, rfl, rfl⟩ := gi_kl_inv g
      obtain ⟨kx, hkx⟩ := List.getElem?_of_mem (gi_ent_mem (ad := ad) hq)
      exact lv_iinc hx hb hd hl.has hkx rfl (by rw [← hl.1]; exact (gi_s1_spec q1).2.1) rfl (fun ls' q => k1 q1 rfl ls' q)
    · cases g
  | iadd =>
    simp only [gi_go] at g
    split at g
    · cases g
      exact lv_iadd hx hb hd (k0 rfl rfl)
    · cases g
  | isub =>
    simp only [gi_go] at g
    split at g
    · cases g
      exact lv_isub hx hb hd (k0 rfl rfl)
    · cases g
  | imul =>
    simp only [gi_go] at g
    split at g
    · cases g
      exact lv_imul hx hb hd (k0 rfl rfl)
    · cases g
  | ineg =>
    simp only [gi_go] at g
    split at g
    · cases g
      exact lv_ineg hx hb hd (k0 rfl rfl)
    · cases g
  | iand =>
    simp only [gi_go] at g
    split at g
    · cases g
      exact lv_iand hx hb hd (k0 rfl rfl)
    · cases g
  | ior =>
    simp only [gi_go] at g
    split at g
    · cases g
      exact lv_ior hx hb hd (k0 rfl rfl)
    · cases g
  | ixor =>
    simp only [gi_go] at g
    split at g
    · cases g
      exact lv_ixor hx hb hd (k0 rfl rfl)
    · cases g
  | ishl =>
    simp only [gi_go] at g
    split at g
    · cases g
      exact lv_ishl hx hb hd (k0 rfl rfl)
    · cases g
  | ishr =>
    simp only [gi_go] at g
    split at g
    · cases g
      exact lv_ishr hx hb hd (k0 rfl rfl)
    · cases g
  | ladd =>
    simp only [gi_go] at g
    split at g
    · cases g
      exact lv_ladd hx hb hd (k0 rfl rfl)
    · cases g
  | lsub =>
    simp only [gi_go] at g
    split at g
    · cases g
      exact lv_lsub hx hb hd (k0 rfl rfl)
    · cases g
  | lmul =>
    simp only [gi_go] at g
    split at g
    · cases g
      exact lv_lmul hx hb hd (k0 rfl rfl)
    · cases g
  | lneg =>
    simp only [gi_go] at g
    split at g
    · cases g
      exact lv_lneg hx hb hd (k0 rfl rfl)
    · cases g
  | land =>
    simp only [gi_go] at g
    split at g
    · cases g
      exact lv_land hx hb hd (k0 rfl rfl)
    · cases g
  | lor =>
    simp only [gi_go] at g
    split at g
    · cases g
      exact lv_lor hx hb hd (k0 rfl rfl)
    · cases g
  | iushr =>
    simp only [gi_go] at g
    split at g
    · cases g
      exact lv_iushr hx hb hd rfl (k0 rfl rfl)
    · cases g
  | lshl =>
    simp only [gi_go] at g
    split at g
    · cases g
      exact lv_lshl hx hb hd rfl (k0 rfl rfl)
    · cases g
  | lshr =>
    simp only [gi_go] at g
    split at g
    · cases g
      exact lv_lshr hx hb hd rfl (k0 rfl rfl)
    · cases g
  | lushr =>
    simp only [gi_go] at g
    split at g
    · cases g
      exact lv_lushr hx hb hd rfl (k0 rfl rfl)
    · cases g
  | i2l =>
    simp only [gi_go] at g
    split at g
    · cases g
      exact lv_i2l hx hb hd rfl (k0 rfl rfl)
    · cases g
  | l2i =>
    simp only [gi_go] at g
    split at g
    · cases g
      exact lv_l2i hx hb hd rfl (k0 rfl rfl)
    · cases g
  | lcmp =>
    simp only [gi_go] at g
    split at g
    · cases g
      exact W.lcmp hx hb hd (k0 rfl rfl)
    · cases g
  | idiv =>
    simp only [gi_go] at g
    split at g
    · split at g
      · cases g
      · rename_i hne
        cases g
        exact lv_idiv hx hb hd hne (k0 rfl rfl)
    · cases g
  | irem =>
    simp only [gi_go] at g
    split at g
    · split at g
      · cases g
      · rename_i hne
        cases g
        exact lv_irem hx hb hd hne (k0 rfl rfl)
    · cases g
  | ldiv =>
    simp only [gi_go] at g
    split at g
    · split at g
      · cases g
      · rename_i hne
        cases g
        exact lv_ldiv hx hb hd hne (k0 rfl rfl)
    · cases g
  | lrem =>
    simp only [gi_go] at g
    split at g
    · split at g
      · cases g
      · rename_i hne
        cases g
        exact lv_lrem hx hb hd hne (k0 rfl rfl)
    · cases g
  | dup =>
    simp only [gi_go] at g
    split at g
    · cases g
      exact lv_dup hx hb hd rfl (k0 rfl rfl)
    · cases g
      exact lv_dup hx hb hd rfl (k0 rfl rfl)
    · cases g
  | dup2 =>
    simp only [gi_go] at g
    split at g
    · cases g
      exact lv_dup2_11 hx hb hd rfl rfl (k0 rfl rfl)
    · cases g
  | pop =>
    simp only [gi_go] at g
    split at g
    · cases g
      exact lv_pop hx hb hd rfl (k0 rfl rfl)
    · cases g
  | goto off =>
    simp only [gi_okI, gi_okIP, decide_eq_true_eq] at hok
    cases g
    exact lv_goto hx hb hd hok (k0 rfl rfl)
  | ifCond cc off =>
    simp only [gi_okI, gi_okIP, decide_eq_true_eq] at hok
    cases cc with
    | eq =>
      simp only [gi_go] at g
      split at g
      · refine lv_if_eq hx hb hd hok (fun q => ?_) (fun q => ?_)
        · rw [if_pos q] at g
          cases g
          exact k0 rfl rfl
        · rw [if_neg q] at g
          cases g
          exact k0 rfl rfl
      · cases g
    | ne =>
      simp only [gi_go] at g
      split at g
      · refine lv_if_ne hx hb hd hok (fun q => ?_) (fun q => ?_)
        · rw [if_neg q] at g
          cases g
          exact k0 rfl rfl
        · rw [if_pos q] at g
          cases g
          exact k0 rfl rfl
      · cases g
    | lt =>
      simp only [gi_go] at g
      split at g
      · refine lv_if_lt hx hb hd hok (fun q => ?_) (fun q => ?_)
        · rw [if_pos q] at g
          cases g
          exact k0 rfl rfl
        · rw [if_neg q] at g
          cases g
          exact k0 rfl rfl
      · cases g
    | ge =>
      simp only [gi_go] at g
      split at g
      · refine lv_if_ge hx hb hd hok (fun q => ?_) (fun q => ?_)
        · rw [if_pos q] at g
          cases g
          exact k0 rfl rfl
        · rw [if_neg q] at g
          cases g
          exact k0 rfl rfl
      · cases g
    | gt =>
      simp only [gi_go] at g
      split at g
      · refine lv_if_gt hx hb hd hok (fun q => ?_) (fun q => ?_)
        · rw [if_pos q] at g
          cases g
          exact k0 rfl rfl
        · rw [if_neg q] at g
          cases g
          exact k0 rfl rfl
      · cases g
    | le =>
      simp only [gi_go] at g
      split at g
      · refine lv_if_le hx hb hd hok (fun q => ?_) (fun q => ?_)
        · rw [if_pos q] at g
          cases g
          exact k0 rfl rfl
        · rw [if_neg q] at g
          cases g
          exact k0 rfl rfl
      · cases g
  | if_icmp cc off =>
    simp only [gi_okI, gi_okIP, decide_eq_true_eq] at hok
    cases cc with
    | eq =>
      simp only [gi_go] at g
      split at g
      · refine lv_icmp_eq hx hb hd hok (fun q => ?_) (fun q => ?_)
        · rw [if_pos q] at g
          cases g
          exact k0 rfl rfl
        · rw [if_neg q] at g
          cases g
          exact k0 rfl rfl
      · cases g
    | ne =>
      simp only [gi_go] at g
      split at g
      · refine lv_icmp_ne hx hb hd hok (fun q => ?_) (fun q => ?_)
        · rw [if_neg q] at g
          cases g
          exact k0 rfl rfl
        · rw [if_pos q] at g
          cases g
          exact k0 rfl rfl
      · cases g
    | lt =>
      simp only [gi_go] at g
      split at g
      · refine lv_icmp_lt hx hb hd hok (fun q => ?_) (fun q => ?_)
        · rw [if_pos q] at g
          cases g
          exact k0 rfl rfl
        · rw [if_neg q] at g
          cases g
          exact k0 rfl rfl
      · cases g
    | ge =>
      simp only [gi_go] at g
      split at g
      · refine lv_icmp_ge hx hb hd hok (fun q => ?_) (fun q => ?_)
        · rw [if_pos q] at g
          cases g
          exact k0 rfl rfl
        · rw [if_neg q] at g
          cases g
          exact k0 rfl rfl
      · cases g
    | gt =>
      simp only [gi_go] at g
      split at g
      · refine lv_icmp_gt hx hb hd hok (fun q => ?_) (fun q => ?_)
        · rw [if_pos q] at g
          cases g
          exact k0 rfl rfl
        · rw [if_neg q] at g
          cases g
          exact k0 rfl rfl
      · cases g
    | le =>
      simp only [gi_go] at g
      split at g
      · refine lv_icmp_le hx hb hd hok (fun q => ?_) (fun q => ?_)
        · rw [if_pos q] at g
          cases g
          exact k0 rfl rfl
        · rw [if_neg q] at g
          cases g
          exact k0 rfl rfl
      · cases g
  | ifnonnull off =>
    simp only [gi_okI, gi_okIP, decide_eq_true_eq] at hok
    simp only [gi_go] at g
    split at g
    · cases g
      exact lv_ifnonnull hx hb hd hok (k0 rfl rfl)
    · cases g
      exact lv_ifnonnullN hx hb hd (k0 rfl rfl)
    · cases g
  | tableswitch dflt lo hi offs =>
    simp only [gi_go] at g
    split at g
    · split at g
      · rename_i hq
        obtain ⟨q1, rfl, rfl, rfl⟩ := gi_kp_inv g
        exact lv_tableOut hx hb hd hq (gi_tg_inv q1) (k0 rfl rfl)
      · rename_i hq
        split at g
        · cases g
        · rename_i off ho
          obtain ⟨q1, rfl, rfl, rfl⟩ := gi_kp_inv g
          exact lv_tableIn hx hb hd (fun z => hq (Or.inl z)) (fun z => hq (Or.inr z)) ho (gi_tg_inv q1) (k0 rfl rfl)
    · cases g
  | lookupswitch dflt ps =>
    simp only [gi_okI, gi_okIP] at hok
    simp only [gi_go] at g
    split at g
    · obtain ⟨q1, rfl, rfl, rfl⟩ := gi_kp_inv g
      exact lv_lookup hx hb hd hok rfl (gi_tg_inv q1) (k0 rfl rfl)
    · cases g
  | getfield i =>
    simp only [gi_okI, gi_okIP] at hok
    split at hok
    · cases hok
    · rename_i q hq
      simp only [Bool.and_eq_true, decide_eq_true_eq] at hok
      simp only [gi_go] at g
      split at g
      · split at g
        · cases g
        · rename_i z hz
          cases g
          obtain ⟨fs, g1, g2⟩ := gi_fg_inv hz
          obtain ⟨k, rfl⟩ := gi_h0_ne h0 g1 (fun _ q => by cases q)
          exact va_get hx hb hts (gi_win _ _ hq) hown hK hP k (gc_w_get g1) hq b hok.1 (hts _ (gi_in_mem hok.2)) (fun _ h9 => h9) (gc_map_get g2) hd (k0 rfl rfl)
      · cases g
  | putfield i =>
    simp only [gi_okI, gi_okIP] at hok
    split at hok
    · cases hok
    · rename_i q hq
      simp only [Bool.and_eq_true, Bool.or_eq_true, Bool.not_eq_true', decide_eq_true_eq] at hok
      obtain ⟨⟨⟨o1, o2⟩, o3⟩, o4⟩ := hok
      simp only [gi_go] at g
      split at g
      · split at g
        · rename_i hkd
          obtain ⟨q1, rfl, rfl, rfl⟩ := gi_kh_inv g
          obtain ⟨fs, g1, g2, q2⟩ := gi_fp_inv q1
          obtain ⟨k, rfl⟩ := gi_h0_ne h0 g1 (fun _ q => by cases q)
          obtain ⟨f1, f2⟩ := gi_kd_fit ad hkd o3
          have e2 : ∀ z, gc_e ct ad (.inr (a, fs.set b z)) = .inr (a, (fs.map (gc_v ad)).set b (gc_v ad z)) := fun z => by simp only [gc_e, List.map_set]
          cases hf : (q.2.1 b).2.2.2 with
          | false =>
            refine va_put hx hb hts (gi_win _ _ hq) (gi_tys a) (gi_tyok _ _ hq) (gi_nmok _ _ hq) hown hK hP hD hS k (gc_w_get g1) hq b o1 (hts _ (gi_in_mem o2)) (fun _ h9 => h9) hf (gi_tyok _ _ hq b o1) f1 f2 (by rw [List.length_map]; exact g2) hd (fun H1 locs1 hP1 hD1 hS1 => ?_)
            exact k3 rfl q2 g1 rfl H1 locs1 (by rw [e2]; exact hP1) (by rw [e2]; exact hD1) hS1
          | true =>
            have o5 : (gi_name M).name = "<init>" ∧ (q.2.1 b).1 = gi_own M := by
              rcases o4 with o4 | o4
              · rw [hf] at o4; cases o4
              · exact o4
            refine va_putF hx hb hts (gi_win _ _ hq) (gi_tys a) (gi_tyok _ _ hq) (gi_nmok _ _ hq) hown hK hP hD hS k (gc_w_get g1) hq b o1 (hts _ (gi_in_mem o2)) (fun _ h9 => h9) hf (hnm.trans o5.1) o5.2 (gi_tyok _ _ hq b o1) f1 f2 (by rw [List.length_map]; exact g2) hd (fun H1 locs1 hP1 hD1 hS1 => ?_)
            exact k3 rfl q2 g1 rfl H1 locs1 (by rw [e2]; exact hP1) (by rw [e2]; exact hD1) hS1
        · cases g
      · cases g
  | iaload =>
    simp only [gi_okI, gi_okIP, Bool.and_eq_true, Bool.or_eq_true, decide_eq_true_eq] at hok
    simp only [gi_go] at g
    split at g
    · split at g
      · cases g
      · rename_i z hz
        cases g
        obtain ⟨n, f, g1, g2, rfl⟩ := gi_ai_inv hz
        rcases hok with rfl | ⟨rfl, rfl⟩
        · obtain ⟨k, rfl⟩ := gi_h0_ne h0 g1 (fun _ q => by cases q)
          exact va_iald hx hb hK hP k 0 (gc_w_get g1) rfl g2 hd (k0 rfl rfl)
        · have := h0.2 _ _ g1
          subst this
          obtain ⟨c1, c2⟩ := hsc rfl
          rw [c2] at g1
          cases g1
          obtain ⟨x1, x2, x3⟩ := hX rfl
          simp only [List.map_cons, gc_v, c1]
          exact va_sld hx hb x1 x2 x3 hS g2 hd (k0 rfl rfl)
    · cases g
  | arraylength =>
    simp only [gi_okI, gi_okIP, Bool.and_eq_true, Bool.or_eq_true, decide_eq_true_eq] at hok
    simp only [gi_go] at g
    split at g
    · split at g
      · cases g
      · rename_i z hz
        cases g
        obtain ⟨f, g1⟩ := gi_an_inv hz
        rcases hok with rfl | ⟨rfl, rfl⟩
        · obtain ⟨k, rfl⟩ := gi_h0_ne h0 g1 (fun _ q => by cases q)
          exact va_alen hx hb hK hP k 0 (gc_w_get g1) (ty := .int) rfl rfl hd (k0 rfl rfl)
        · have := h0.2 _ _ g1
          subst this
          obtain ⟨c1, c2⟩ := hsc rfl
          rw [c2] at g1
          cases g1
          obtain ⟨x1, x2, x3⟩ := hX rfl
          simp only [List.map_cons, gc_v, c1]
          exact va_slen hx hb x1 x2 x3 hS hd (k0 rfl rfl)
    · cases g
  | baload =>
    simp only [gi_go] at g
    split at g
    · split at g
      · cases g
      · rename_i z hz
        cases g
        obtain ⟨n, f, g1, g2, rfl⟩ := gi_ai_inv hz
        obtain ⟨k, rfl⟩ := gi_h0_ne h0 g1 (fun _ q => by cases q)
        exact va_zald hx hb hK hP k 2 (gc_w_get g1) rfl g2 hd (k0 rfl rfl)
    · cases g
  | laload =>
    simp only [gi_go] at g
    split at g
    · split at g
      · cases g
      · rename_i z hz
        cases g
        obtain ⟨n, f, g1, g2, rfl⟩ := gi_al_inv hz
        obtain ⟨k, rfl⟩ := gi_h0_ne h0 g1 (fun _ q => by cases q)
        exact va_lald hx hb hK hP k 1 (gc_w_get g1) rfl g2 hd (k0 rfl rfl)
    · cases g
  | aaload =>
    simp only [gi_go] at g
    split at g
    · split at g
      · cases g
      · rename_i hz
        cases g
        obtain ⟨n, f, g1, g2, g3⟩ := gi_aq_inv hz
        obtain ⟨k, rfl⟩ := gi_h0_ne h0 g1 (fun _ q => by cases q)
        refine va_aldq hx hb hK hP k 3 (gc_w_get g1) rfl g2 hd ?_
        rw [← g3]
        exact k0 rfl rfl
      · rename_i z hz
        cases g
        obtain ⟨n, f, g1, g2, g3⟩ := gi_aq_inv hz
        obtain ⟨k, rfl⟩ := gi_h0_ne h0 g1 (fun _ q => by cases q)
        refine va_aldq hx hb hK hP k 3 (gc_w_get g1) rfl g2 hd ?_
        rw [← g3]
        exact k0 rfl rfl
    · cases g
  | iastore =>
    simp only [gi_go] at g
    split at g
    · obtain ⟨q1, rfl, rfl, rfl⟩ := gi_kh_inv g
      obtain ⟨n, f, g1, g2, q2⟩ := gi_pi_inv q1
      obtain ⟨k, rfl⟩ := gi_h0_ne h0 g1 (fun _ q => by cases q)
      exact va_iast hx hb hK hP hD hS k 0 (gc_w_get g1) rfl g2 hd (fun H1 locs1 hP1 hD1 hS1 => k3 rfl q2 g1 rfl H1 locs1 hP1 hD1 hS1)
    · cases g
  | bastore =>
    simp only [gi_go] at g
    split at g
    · split at g
      · rename_i x i o st2 hbit
        obtain ⟨q1, rfl, rfl, rfl⟩ := gi_kh_inv g
        obtain ⟨n, f, g1, g2, q2⟩ := gi_pi_inv q1
        obtain ⟨k, rfl⟩ := gi_h0_ne h0 g1 (fun _ q => by cases q)
        have en : vp_nar .boolean x = x := by rcases hbit with rfl | rfl <;> decide
        refine va_zast hx hb hK hP hD hS k 2 (gc_w_get g1) rfl g2 hd (fun H1 locs1 hP1 hD1 hS1 => ?_)
        rw [en] at hP1 hD1
        exact k3 rfl q2 g1 rfl H1 locs1 hP1 hD1 hS1
      · cases g
    · cases g
  | lastore =>
    simp only [gi_go] at g
    split at g
    · obtain ⟨q1, rfl, rfl, rfl⟩ := gi_kh_inv g
      obtain ⟨n, f, g1, g2, q2⟩ := gi_pl_inv q1
      obtain ⟨k, rfl⟩ := gi_h0_ne h0 g1 (fun _ q => by cases q)
      exact va_last hx hb hK hP hD hS k 1 (gc_w_get g1) rfl g2 hd (fun H1 locs1 hP1 hD1 hS1 => k3 rfl q2 g1 rfl H1 locs1 hP1 hD1 hS1)
    · cases g
  | aastore =>
    simp only [gi_okI, gi_okIP, decide_eq_true_eq] at hok
    subst hok
    simp only [gi_go] at g
    split at g
    · obtain ⟨q1, rfl, rfl, rfl⟩ := gi_kh_inv g
      obtain ⟨n, f, g1, g2, g3, q2⟩ := gi_pq_inv q1
      obtain ⟨fs, g4⟩ := gi_is_inv g3
      obtain ⟨k, rfl⟩ := gi_h0_ne h0 g1 (fun _ q => by cases q)
      obtain ⟨k2, rfl⟩ := gi_h0_ne h0 g4 (fun _ q => by cases q)
      refine va_astq hx hb hK hP hD hS k 3 k2 0 (r := (RX0, TX0, 15)) (gc_w_get g1) rfl (gc_w_get g4) rfl g2 hd (fun H1 locs1 hP1 hD1 hS1 => ?_)
      have e3 : ∀ (i x : Nat), gc_e ct ad (.inl (3, n, .inr (.inr (.inr (.inr (va_up f i (some x))))))) = .inl (ct 3, n, .inr (.inr (.inr (.inr (va_up (fun j => (f j).map ad) i (some (ad x))))))) := by
        intro i x
        simp only [gc_e, gc_a]
        have : (fun j => (va_up f i (some x) j).map ad) = va_up (fun j => (f j).map ad) i (some (ad x)) := by
          funext j
          simp only [va_up]
          split <;> rfl
        rw [this]
      exact k3 rfl q2 g1 rfl H1 locs1 (by rw [e3]; exact hP1) (by rw [e3]; exact hD1) hS1
    · cases g
  | newarray t =>
    simp only [gi_okI, gi_okIP, Bool.and_eq_true, Bool.or_eq_true, decide_eq_true_eq] at hok
    simp only [gi_go] at g
    split at g
    · rename_i n st2
      split at g
      · rename_i hn
        cases g
        have hc1 : cells + 1 ≤ R.cells := by simp at hRc; omega
        have hs1 : slots + n.toNatClampNeg ≤ R.slots := by
          rw [gi_slots_app] at hRs
          have : gi_sl (gi_na a n.toNatClampNeg) = n.toNatClampNeg := by unfold gi_na; split <;> rfl
          omega
        have fin : ∀ {ty : FieldType} {x : va_E} {y : vp_A} {t0 : Nat}, gi_na a n.toNatClampNeg = x → (∀ ad2, gc_e ct ad2 x = .inl (ct t0, y)) → gi_sl x = n.toNatClampNeg → (∀ cA, va_RA s cA ty → cA = ct t0) → ∀ (q : Nat) (cA : ClassId) (H1 : Heap), va_K D gi_cls (gi_tyl ct ++ [(cA, ty)]) s → va_P D gi_cls (gc_w ct ad h ++ [(q, .inl (cA, y))]) H1 → va_D A (gc_w ct ad h ++ [(q, .inl (cA, y))]) → va_S A s.heap H1 locs → W p l e R s m args below meth c H1 locs (cells + 1) (slots + n.toNatClampNeg) Q (F0 m (pc + 2) ls (.ref q :: st2.map (gc_v ad))) := by
          intro ty x y t0 r1 r2 r3 r4 q cA H1 hK1 hP1 hD1 hS1
          have := r4 cA (hK1.2 4 _ rfl).2
          subst this
          exact k4 rfl (by rw [r1]) rfl (gi_ws_cons.mp ws).2 r2 r3 q H1 hP1 hD1 hS1
        rcases hok with (⟨⟨rfl, rfl⟩, o1⟩ | ⟨⟨rfl, rfl⟩, o1⟩) | ⟨⟨rfl, rfl⟩, o1⟩
        · exact va_newa (atype := .int) hx hb (hts _ (gi_in_mem o1)) rfl hK hP hD hS hA (a0 := (n.toNatClampNeg, .inl (fun _ => 0))) (fun cA => vp_cell_i _ _ _) hn.1 rfl (by show _ * 4 ≤ _; omega) hc1 hs1 hd (fin (ty := .int) (t0 := 0) rfl (fun _ => rfl) rfl (fun cA z => Option.some.inj (z.symm.trans (hK.2 0 _ rfl).2)))
        · exact va_newa (atype := .long) hx hb (hts _ (gi_in_mem o1)) rfl hK hP hD hS hA (a0 := (n.toNatClampNeg, .inr (.inl (fun _ => 0)))) (fun cA => vp_cell_l _ _ _) hn.1 rfl (by show _ * 8 ≤ _; omega) hc1 hs1 hd (fin (ty := .long) (t0 := 1) rfl (fun _ => rfl) rfl (fun cA z => Option.some.inj (z.symm.trans (hK.2 1 _ rfl).2)))
        · exact va_newa (atype := .boolean) hx hb (hts _ (gi_in_mem o1)) rfl hK hP hD hS hA (a0 := (n.toNatClampNeg, .inl (fun _ => 0))) (fun cA => vp_cell_i _ _ _) hn.1 rfl (by show _ * 1 ≤ _; omega) hc1 hs1 hd (fin (ty := .boolean) (t0 := 2) rfl (fun _ => rfl) rfl (fun cA z => Option.some.inj (z.symm.trans (hK.2 2 _ rfl).2)))
      · cases g
    · cases g
  | anewarray i =>
    simp only [gi_okI, gi_okIP] at hok
    simp only [gi_go] at g
    split at g
    · rename_i n st2
      split at g
      · rename_i hn
        cases g
        have hc1 : cells + 1 ≤ R.cells := by simp at hRc; omega
        have hs1 : slots + n.toNatClampNeg ≤ R.slots := by
          rw [gi_slots_app] at hRs
          have : gi_sl (gi_na 3 n.toNatClampNeg) = n.toNatClampNeg := rfl
          omega
        refine va_newq hx hb hown (hts _ (gi_in_mem hok)) hNW.2 hK hP hD hS hA hn.1 rfl (by omega) hc1 hs1 hd (fun q cA H1 hK1 hP1 hD1 hS1 => ?_)
        have : cA = ct 3 := by
          obtain ⟨_, _, _, _, _, u1⟩ := (hK1.2 4 _ rfl).2
          obtain ⟨_, _, _, _, _, u2⟩ := (hK.2 3 _ rfl).2
          exact Option.some.inj (u1.symm.trans u2)
        subst this
        exact k4 (x := gi_na 3 n.toNatClampNeg) rfl rfl rfl (gi_ws_cons.mp ws).2 (fun _ => rfl) rfl q H1 hP1 hD1 hS1
      · cases g
    · cases g
  | new i =>
    simp only [gi_okI, gi_okIP] at hok
    split at hok
    · cases hok
    · rename_i q hq
      simp only [Bool.and_eq_true] at hok
      cases g
      have hN : gi_N a = q.2.2 := by simp only [gi_N, hq]
      have hc1 : cells + 1 ≤ R.cells := by simp at hRc; omega
      have hs1 : slots + q.2.2 ≤ R.slots := by
        rw [gi_slots_app] at hRs
        have : gi_sl (.inr (a, gi_df a)) = q.2.2 := hN
        omega
      refine va_new (ci := a) (fs := gi_df a) hx hb hts (gi_win _ _ hq) (gi_tys a) (gi_tyok _ _ hq) hown (hts _ (gi_in_mem hok.1.1)) (hts _ (gi_in_mem hok.1.2)) (hts _ (gi_in_mem hok.2)) hK hP hD hS hA hq (gi_dfok _ _ hq).1 hc1 hs1 hd (fun q1 H1 hP1 hD1 hS1 => ?_)
      refine k4 (x := .inr (a, gi_df a)) rfl rfl rfl ws (fun ad2 => ?_) hN q1 H1 hP1 hD1 hS1
      show (Sum.inr (a, (gi_df a).map (gc_v ad2)) : va_E) = .inr (a, gi_df a)
      rw [List.map_congr_left (g := id) (fun v hv => ?_), List.map_id]
      have := List.all_eq_true.mp (gi_dfok _ _ hq).2 v hv
      cases v <;> first | rfl | cases this
  | invokestatic i =>
    simp only [gi_go] at g
    split at g
    · rename_i h9
      simp only [gi_okI, gi_okIP, h9, Bool.and_eq_true, decide_eq_true_eq] at hok
      split at g
      · obtain ⟨q1, rfl, rfl, rfl⟩ := gi_kh_inv g
        obtain ⟨n0, f, n1, g', g1, g2, c1, c2, c3, c4, c5, q2⟩ := gi_cp_inv q1
        obtain ⟨k, rfl⟩ := gi_h0_ne h0 g1 (fun _ q => by cases q)
        obtain ⟨k', rfl⟩ := gi_h0_ne h0 g2 (fun _ q => by cases q)
        exact va_copyi (ty := .int) hx hb (hml.trans hl.2.1.symm) hown (hts _ (gi_in_mem hok.1.1.1.1)) (hts _ (gi_in_mem hok.1.1.1.2)) (hts _ (gi_in_mem hok.1.1.2)) (hts _ (gi_in_mem hok.1.2)) hK hP hD hS k k' 0 0 (gc_w_get g1) (gc_w_get g2) rfl rfl rfl c1 c2 c3 c4 c5 (fun _ _ => rfl) (by omega) (by show 0 + (7 + 11) ≤ _; omega) hd (fun H1 locs1 hP1 hD1 hS1 => k3 rfl q2 g2 rfl H1 locs1 hP1 hD1 hS1)
      · cases g
    · exact (gi_call_ninl g).elim
  | invokevirtual i =>
    simp only [gi_go] at g
    split at g
    · exact (gi_callV_ninl g).elim
    · cases g
  | invokespecial i =>
    simp only [gi_go] at g
    split at g
    · rename_i h9
      simp only [gi_okI, gi_okIP, h9, Bool.and_eq_true, decide_eq_true_eq] at hok
      split at g
      · cases g
        refine W.objInit hx hb hown (hts _ (gi_in_mem hok.1.1.1)) (hts _ (gi_in_mem hok.1.1.2)) (hts _ (gi_in_mem hok.1.2)) rfl (hl.2.1.trans hml.symm) rfl hd (by omega) (by show 2 * 0 + 0 + 12 ≤ _; omega) ?_
        exact k0 rfl rfl
      · cases g
    · split at g
      · cases g
      · split at g
        · cases g
        · exact (gi_call_ninl g).elim
  | ireturn =>
    simp only [gi_go] at g
    split at g
    · split at g <;> cases g
    · cases g
  | lreturn | return_ =>
    simp only [gi_go] at g
    split at g <;> cases g
  | _ => cases g
end GST
