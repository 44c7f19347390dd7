/-! FROM THE INTERPRETER TO THE MACHINE, 4: calls, returns, the whole -/
def gi_rt (ret : Option FieldType) (ins : Instr) (rv : Option Value) : Prop := (ins = .ireturn ∧ ∃ x, rv = some (.int x) ∧ gi_rok ret x = true) ∨ (ins = .lreturn ∧ ret = some .long ∧ ∃ x, rv = some (.long x)) ∨ (ins = .return_ ∧ ret = none ∧ rv = none)
set_option maxHeartbeats 4000000 in
theorem gi_go_ret {ret : Option FieldType} {r : gi_I} {pc : Nat} {lv : gi_Lv} {st : List Value} {h : gi_H} {rv : Option Value} (e : gi_go gi_df ret r pc lv st h = some (.inr (.inl rv))) : gi_rt ret r.1 rv ∧ st = rv.toList ∧ gi_len r.1 r.2.2.1 = 1 := by
  obtain ⟨ins, a, b, v⟩ := r
  cases ins with
  | ireturn =>
    simp only [gi_go] at e
    split at e
    · split at e
      · rename_i hq; cases e; exact ⟨Or.inl ⟨rfl, _, rfl, hq⟩, rfl, rfl⟩
      · cases e
    · cases e
  | lreturn =>
    simp only [gi_go] at e
    split at e
    · cases e; exact ⟨Or.inr (Or.inl ⟨rfl, rfl, _, rfl⟩), rfl, rfl⟩
    · cases e
  | return_ =>
    simp only [gi_go] at e
    split at e
    · cases e; exact ⟨Or.inr (Or.inr ⟨rfl, rfl, rfl⟩), rfl, rfl⟩
    · cases e
  | ifCond c off => cases c <;> (simp only [gi_go] at e; repeat' split at e) <;> cases e
  | if_icmp c off => cases c <;> (simp only [gi_go] at e; repeat' split at e) <;> cases e
  | _ =>
    exfalso
    first | (cases e; done) | (simp only [gi_go, gi_kl, gi_kh, gi_kp, gi_call, gi_callV] at e; (repeat' split at e) <;> cases e)
theorem gi_tk_spec : ∀ (n : Nat) (acc st as rest : List Value), gi_tk n acc st = some (as, rest) → as.length = n + acc.length ∧ as.reverse ++ rest = acc.reverse ++ st := by
  intro n
  induction n with
  | zero => intro acc st as rest e; cases e; exact ⟨by omega, rfl⟩
  | succ n ih =>
    intro acc st as rest e
    cases st with
    | nil => cases e
    | cons v t =>
      obtain ⟨a1, a2⟩ := ih _ _ _ _ e
      refine ⟨by simp at a1; omega, ?_⟩
      rw [a2]
      simp
theorem gi_hd_inv {as : List Value} {o : Nat} (e : gi_hd as = some o) : ∃ t, as = .ref o :: t := by
  unfold gi_hd at e
  split at e
  · cases e; exact ⟨_, rfl⟩
  · cases e
theorem gi_call_inv {a b j : Nat} {st as rest : List Value} (e : gi_call a b st = some (.inr (.inr (j, as, rest)))) : j = a ∧ gi_tk b [] st = some (as, rest) ∧ gi_cat rest ≤ 8 := by
  unfold gi_call at e
  split at e
  · cases e
  · rename_i as' rest' hq
    split at e
    · rename_i hc; cases e; exact ⟨rfl, hq, hc⟩
    · cases e
set_option maxHeartbeats 4000000 in
theorem gi_go_call {ret : Option FieldType} {r : gi_I} {pc : Nat} {lv : gi_Lv} {st : List Value} {h : gi_H} {j : Nat} {as rest : List Value} (e : gi_go gi_df ret r pc lv st h = some (.inr (.inr (j, as, rest)))) :
    j = r.2.1 ∧ as.length = r.2.2.1 ∧ st = as.reverse ++ rest ∧ gi_cat rest ≤ 8 ∧ ((∃ i, r.1 = .invokestatic i ∧ Nat.beq r.2.1 999 = false) ∨ (∃ i ci o t, r.1 = .invokevirtual i ∧ r.2.2.2 = .ref ci ∧ as = .ref o :: t ∧ gi_is h o ci = true) ∨ (∃ i o t, r.1 = .invokespecial i ∧ Nat.beq r.2.1 998 = false ∧ as = .ref o :: t)) := by
  obtain ⟨ins, a, b, v⟩ := r
  cases ins with
  | invokestatic i =>
    simp only [gi_go] at e
    split at e
    · split at e
      · simp only [gi_kh] at e; split at e <;> cases e
      · cases e
    · rename_i h9
      obtain ⟨rfl, e1, e2⟩ := gi_call_inv e
      obtain ⟨a1, a2⟩ := gi_tk_spec _ _ _ _ _ e1
      exact ⟨rfl, a1, by rw [a2]; rfl, e2, Or.inl ⟨i, rfl, h9⟩⟩
  | invokevirtual i =>
    simp only [gi_go] at e
    split at e
    · rename_i ci
      unfold gi_callV at e
      split at e
      · cases e
      · rename_i as' rest' hq
        split at e
        · cases e
        · rename_i o ho
          split at e
          · rename_i his
            split at e
            · rename_i hc
              cases e
              obtain ⟨a1, a2⟩ := gi_tk_spec _ _ _ _ _ hq
              obtain ⟨t, rfl⟩ := gi_hd_inv ho
              exact ⟨rfl, a1, by rw [a2]; rfl, hc, Or.inr (Or.inl ⟨i, ci, o, t, rfl, rfl, rfl, his⟩)⟩
            · cases e
          · cases e
    · cases e
  | invokespecial i =>
    simp only [gi_go] at e
    split at e
    · split at e <;> cases e
    · rename_i h9
      split at e
      · cases e
      · rename_i as' rest' hq
        split at e
        · cases e
        · rename_i o ho
          obtain ⟨rfl, e1, e2⟩ := gi_call_inv e
          rw [e1] at hq
          cases hq
          obtain ⟨a1, a2⟩ := gi_tk_spec _ _ _ _ _ e1
          obtain ⟨t, rfl⟩ := gi_hd_inv ho
          exact ⟨rfl, a1, by rw [a2]; rfl, e2, Or.inr (Or.inr ⟨i, o, t, rfl, h9, rfl⟩)⟩
  | ifCond c off => cases c <;> (simp only [gi_go] at e; repeat' split at e) <;> cases e
  | if_icmp c off => cases c <;> (simp only [gi_go] at e; repeat' split at e) <;> cases e
  | _ =>
    exfalso
    first | (cases e; done) | (simp only [gi_go, gi_kl, gi_kh, gi_kp] at e; (repeat' split at e) <;> cases e)
def gi_nr (rv : Option Value) : Prop := ∀ k, rv ≠ some (.ref k)
theorem gi_rt.nr {ret : Option FieldType} {ins : Instr} {rv : Option Value} (h : gi_rt ret ins rv) : gi_nr rv := by
  rcases h with ⟨-, x, rfl, -⟩ | ⟨-, -, x, rfl⟩ | ⟨-, -, rfl⟩ <;> (intro k z; cases z)
theorem gi_nr.ws {rv : Option Value} (h : gi_nr rv) (n : Nat) : gi_ws n rv.toList := by
  intro v hv
  cases rv with
  | none => cases hv
  | some x =>
    simp at hv
    subst hv
    cases v with
    | ref k => exact absurd rfl (h k)
    | _ => trivial
theorem gi_nr.map {rv : Option Value} (h : gi_nr rv) (ad : Nat → Nat) : rv.toList.map (gc_v ad) = rv.toList := by
  cases rv with
  | none => rfl
  | some x =>
    cases x with
    | ref k => exact absurd rfl (h k)
    | _ => rfl
theorem gi_ws_app {n : Nat} {a b : List Value} : gi_ws n (a ++ b) ↔ gi_ws n a ∧ gi_ws n b := by
  constructor
  · intro h; exact ⟨fun v hv => h v (List.mem_append_left _ hv), fun v hv => h v (List.mem_append_right _ hv)⟩
  · rintro ⟨h1, h2⟩ v hv
    rcases List.mem_append.mp hv with q | q
    · exact h1 v q
    · exact h2 v q
theorem gi_ws_rev {n : Nat} {a : List Value} (h : gi_ws n a.reverse) : gi_ws n a := fun v hv => h v (List.mem_reverse.mpr hv)
theorem gi_ex_P {pr : Nat → gi_M} (hpr : ∀ j, gi_okM false pr (pr j)) : ∀ (n : Nat) (top : Bool) (M : gi_M) (pc : Nat) (lv : gi_Lv) (st : List Value) (h : gi_H) (rv : Option Value) (hf : gi_H), gi_okM top pr M → gi_wh h → gi_wl h.length lv → gi_ws h.length st → gi_h0 h → gi_ex pr gi_df n M pc lv st h = some (rv, hf) → gi_wh hf ∧ gi_nr rv ∧ gi_h0 hf ∧ h.length ≤ hf.length ∧ gi_slots h ≤ gi_slots hf ∧ hf[0]? = h[0]? := by
  intro n
  induction n with
  | zero => intro top M pc lv st h rv hf _ _ _ _ _ e; cases e
  | succ n ih =>
    intro top M pc lv st h rv hf hM w l s h0 e
    rw [gi_ex] at e
    cases h1 : gi_look (gi_tab M) pc with
    | none => rw [h1] at e; cases e
    | some x =>
      rw [h1] at e
      simp only at e
      obtain ⟨hd, hok⟩ := gi_ok_at hM h1
      cases h2 : gi_go gi_df (gi_ret M) x pc lv st h with
      | none => rw [h2] at e; cases e
      | some o =>
        rw [h2] at e
        match o, h2, e with
        | .inl (pc', lv', st', h'), h2, e =>
          obtain ⟨p1, p2, p3, p4, p5, p6, p7, p8⟩ := gi_go_P hok w l s h0 h2
          obtain ⟨q1, q2, q3, q4, q5, q6⟩ := ih top M pc' lv' st' h' rv hf hM p1 p2 p3 p4 e
          exact ⟨q1, q2, q3, by omega, by omega, by rw [q6, p8]⟩
        | .inr (.inl rv'), h2, e =>
          cases e
          exact ⟨w, (gi_go_ret h2).1.nr, h0, Nat.le_refl _, Nat.le_refl _, rfl⟩
        | .inr (.inr (j, as, rest)), h2, e =>
          simp only at e
          obtain ⟨-, -, c3, -, -⟩ := gi_go_call h2
          rw [c3] at s
          obtain ⟨s1, s2⟩ := gi_ws_app.mp s
          cases h4 : Nat.ble (gi_en0 as).length (gi_maxL (pr j)) with
          | false => rw [h4] at e; cases e
          | true =>
            rw [h4] at e
            simp only at e
            cases h3 : gi_ex pr gi_df n (pr j) 0 (gi_en (gi_maxL (pr j)) as) [] h with
            | none => rw [h3] at e; cases e
            | some z =>
              rw [h3] at e
              obtain ⟨w1, h1'⟩ := z
              obtain ⟨q1, q2, q3, q4, q5, q6⟩ := ih false (pr j) 0 _ [] h w1 h1' (hpr j) w (gi_wl.entry (gi_ws_rev s1)) gi_ws_nil h0 h3
              obtain ⟨r1, r2, r3, r4, r5, r6⟩ := ih top M (pc + 3) lv _ h1' rv hf hM q1 (l.mono q4) (gi_ws_app.mpr ⟨q2.ws _, s2.mono q4⟩) q3 e
              exact ⟨r1, r2, r3, by omega, by omega, by rw [r6, q6]⟩
/-- a method's start and end, in the abstract heap's words -/
def gi_B (D : va_G) (ct : Nat → ClassId) (ad : Nat → Nat) (h : gi_H) (sz : Nat) (U : State) : Prop := U.heap.size = sz ∧ va_P D gi_cls (gc_w ct ad h) U.heap ∧ va_K D gi_cls (gi_tyl ct) U ∧ va_D (fun _ => True) (gc_w ct ad h) ∧ gi_NW U
def gi_Q (D : va_G) (ct : Nat → ClassId) (ad : Nat → Nat) (n : Nat) (rv : Option Value) (hf : gi_H) (A : Nat → Prop) : Array Value → State → Outcome → State → Prop := fun _ st oc t =>
  (∃ ad' : Nat → Nat, (∀ k, k < n → ad' k = ad k) ∧ oc = .returned rv ∧ va_P D gi_cls (gc_w ct ad' hf) t.heap ∧ va_D A (gc_w ct ad' hf)) ∧ va_F A st t
theorem gi_blind {D : va_G} {ct : Nat → ClassId} {ad : Nat → Nat} {h : gi_H} {sz : Nat} {av : List Value} : FrameBlind (va_Pc av (gi_B D ct ad h sz)) := by
  intro a U g mk q
  obtain ⟨q0, q1, q2, q3, q4, q5⟩ := q
  exact ⟨q0, q1, q2, va_K.moved (u := U) (U := U.calling g mk a) (Vm.Alike.refl U.vm) q3, q4, gi_NW.same (s := U) (U := U.calling g mk a) rfl q5⟩
theorem gi_contW {p : Program} {l : Launch} {e : Env} {R : Room} {s : State} {m : MethodId} {args : Array Value} {below : List Frame} {meth : Method} {c : Code} {H : Heap} {locs : List Loc} {cells slots : Nat} {Q : State → Prop} {pc : Nat} {ls : Array Slot} {rest st0 : List Value} {a : Array Value} {A0 A1 : Nat → Prop} {H0 : Heap} {mc ms n : Nat} {free : Addr → Prop} {D : va_G} {ct : Nat → ClassId} {ad : Nat → Nat} {rv : Option Value} {hf : gi_H}
    (hr : va_Run p l e R s m args below meth c H locs cells slots mc ms (F0 m pc ls st0) rest (gi_Q D ct ad n rv hf A1 a) free) (hS : va_S A0 H0 H locs) (hA : ∀ q, q < H.size → A1 q → A0 q) (hfr : ∀ q, free q → A0 q)
    (kk : ∀ (ad' : Nat → Nat) (H1 : Heap) (locs1 : List Loc), (∀ k, k < n → ad' k = ad k) → va_P D gi_cls (gc_w ct ad' hf) H1 → va_D A1 (gc_w ct ad' hf) → va_S A0 H0 H1 locs1 → W p l e R s m args below meth c H1 locs1 (cells + mc) (slots + ms) Q (F0 m (pc + 3) ls (rv.toList ++ rest))) : W p l e R s m args below meth c H locs cells slots Q (F0 m pc ls st0) := by
  intro T hT X
  obtain ⟨v, st₀, t, T', L, h0, X', hL, e1, e2, ⟨⟨ad', ag, hv, hp, hb⟩, hz, hk⟩, st⟩ := hr T hT X
  cases hv
  rw [h0] at hz hk
  obtain ⟨t2, a1, b1⟩ := kk ad' T'.heap (locs ++ L) ag (by rw [e1]; exact hp) hb
    ⟨Nat.le_trans hS.1 (by rw [e1]; exact hz), fun q h1 h2 => by rw [e1, hk q (Nat.lt_of_lt_of_le h1 hS.1) (fun z => h2 (hA q (Nat.lt_of_lt_of_le h1 hS.1) z))]; exact hS.2.1 q h1 h2, fun q hq => by
      rcases List.mem_append.mp hq with h | h
      · exact hS.2.2 q h
      · exact hfr _ (hL q h)⟩ T' rfl X'
  exact ⟨t2, st t2 a1, b1⟩
/-- what is proved by induction on the number of instructions -/
def gi_G (pr : Nat → gi_M) (n : Nat) : Prop := ∀ (top : Bool) (M : gi_M) (pc : Nat) (lv : gi_Lv) (st : List Value) (h : gi_H) (rv : Option Value) (hf : gi_H), gi_okM top pr M → gi_wh h → gi_wl h.length lv → gi_ws h.length st → gi_h0 h → gi_ex pr gi_df n M pc lv st h = some (rv, hf) →
  ∀ (D : va_G) (ct : Nat → ClassId) (p : Program) (l : Launch) (e : Env) (R : Room) (s : State) (m : MethodId) (args : Array Value) (below : List Frame) (meth : Method) (c : Code) (Q : State → Prop) (A : Nat → Prop) (b0 L : Nat) (xs : Nat → Int32) (ad : Nat → Nat) (ls : Array Slot) (H : Heap) (locs : List Loc) (cells slots n0 s0 : Nat),
  gi_C D ct M p R s m args meth c → (∀ q, s.heap.size ≤ q → A q) → (top = true → va_X b0 L xs s s.heap ∧ b0 < s.heap.size ∧ ¬ A b0) → (top = true → ad 0 = b0 ∧ h[0]? = some (.inl (9, L, .inl xs))) →
  gi_L ls (gi_maxL M) ad lv → gi_Wd D ct A s n0 s0 ad h H locs cells slots → hf.length ≤ n0 + R.cells → gi_slots hf ≤ s0 + R.slots →
  (∀ (pcr : Nat) (insr : Instr) (lsr : Array Slot) (ad' : Nat → Nat) (H' : Heap) (locs' : List Loc) (cells' slots' : Nat), decode (gi_code M) pcr = .ok (insr, 1) → gi_rt (gi_ret M) insr rv → (∀ k, k < h.length → ad' k = ad k) → gi_Wd D ct A s n0 s0 ad' hf H' locs' cells' slots' → W p l e R s m args below meth c H' locs' cells' slots' Q (F0 m pcr lsr rv.toList)) →
  W p l e R s m args below meth c H locs cells slots Q (F0 m pc ls (st.map (gc_v ad)))
def gi_ws_of (M : gi_M) : List Jvm.Cond := .code (gi_name M) (gi_code M) (gi_maxL M) (gi_ret M) :: gi_AW
def gi_rm (M : gi_M) (mc ms : Nat) : Room := { frames := gi_rk M, cells := mc, slots := ms, locals := 41 * gi_rk M }
set_option maxHeartbeats 4000000 in
theorem gi_met {pr : Nat → gi_M} (hpr : ∀ j, gi_okM false pr (pr j)) {n : Nat} (G : gi_G pr n) {j : Nat} (hpl : plainFor (gi_name (pr j)) = true) (how : gi_own (pr j) = (gi_name (pr j)).cls) {as : List Value} {h : gi_H} {rv : Option Value} {hf : gi_H} (wh : gi_wh h) (ws : gi_ws h.length as) (h0 : gi_h0 h) (hlen : (gi_en0 as).length ≤ gi_maxL (pr j)) (ex : gi_ex pr gi_df n (pr j) 0 (gi_en (gi_maxL (pr j)) as) [] h = some (rv, hf)) (l : Launch) (D : va_G) (ct : Nat → ClassId) (ad : Nat → Nat) (sz : Nat) :
    Met l (gi_name (pr j)) (gi_ws_of (pr j)) (gi_rm (pr j) (hf.length - h.length) (gi_slots hf - gi_slots h)) (va_Pc (as.map (gc_v ad)) (gi_B D ct ad h sz)) (gi_Q D ct ad h.length rv hf (va_A (gc_w ct ad h) sz)) (hf.length - h.length) (gi_slots hf - gi_slots h) (va_A (gc_w ct ad h) sz) := by
  obtain ⟨p1, p2, p3, p4, p5, p6⟩ := gi_ex_P hpr n false (pr j) 0 _ [] h rv hf (hpr j) wh (gi_wl.entry ws) gi_ws_nil h0 ex
  refine va_MetF (cc := gi_code (pr j)) (maxL := gi_maxL (pr j)) (ret := gi_ret (pr j)) hpl rfl ?_
  intro p e s m args below meth c s₁ B hml hv
  obtain ⟨rfl, hsz, hP, hK, hD0, hN⟩ := hv
  have hts0 := atoms_spec (ws := gi_ws_of (pr j)) B.pre
  have hts : ∀ w ∈ gi_AW, w.before _ s = true := fun w hw => hts0 w (List.mem_cons_of_mem _ hw)
  have hown : s.vm.findClass (gi_own (pr j)) = some m.cls := by rw [how]; exact findClass_of_methodNamed B.named
  have hnm : meth.name = (gi_name (pr j)).name := (name_of_methodNamed B.named B.method).1
  have hlocks := B.notSynchronized
  subst hsz
  rw [lg_entry_eq]
  refine G false (pr j) 0 _ [] h rv hf (hpr j) wh (gi_wl.entry ws) gi_ws_nil h0 ex D ct p l e _ s m _ below meth c _ (va_A (gc_w ct ad h) s.heap.size) 0 0 (fun _ => 0) ad _ s.heap [] 0 0 h.length (gi_slots h) ⟨B.exec, B.bytes, B.returns, hml, hown, hts, hN, hK, hlocks, hnm, Nat.le_refl _, Nat.le_refl _⟩ (fun q hq => Or.inr hq) (fun z => by cases z) (fun z => by cases z) (gi_L.entry ad hlen) ⟨hP, hD0.self, va_S.rf, by omega, by omega⟩ (by show _ ≤ h.length + (hf.length - h.length); omega) (by show _ ≤ gi_slots h + (gi_slots hf - gi_slots h); omega) ?_
  intro pcr insr lsr ad' H' locs' cells' slots' hdr hrt ag hw
  obtain ⟨hP', hD', hS', hc', hs'⟩ := hw
  have ec : hf.length - h.length = cells' := by omega
  have es : gi_slots hf - gi_slots h = slots' := by omega
  rw [ec, es]
  have hq : ∀ t : State, t.heap = H' → s.WarmedH t.vm → gi_Q D ct ad h.length rv hf (va_A (gc_w ct ad h) s.heap.size) (as.map (gc_v ad)).toArray s (.returned rv) t := by
    intro t ht _
    exact ⟨⟨ad', ag, rfl, by rw [ht]; exact hP', hD'⟩, hS'.F ht⟩
  rcases hrt with ⟨rfl, x, rfl, hro⟩ | ⟨rfl, hret, x, rfl⟩ | ⟨rfl, hret, rfl⟩
  · unfold gi_rok at hro
    split at hro
    · rename_i hret
      exact W.iret B.exec B.bytes (B.returns.trans hret) hq hS'.2.2 hdr
    · rename_i hret
      exact W.zret (ty := .boolean) B.exec B.bytes (B.returns.trans hret) (by rcases decide_eq_true_eq.mp hro with rfl | rfl <;> rfl) hq hS'.2.2 hdr
    · cases hro
  · exact W.lret B.exec B.bytes (B.returns.trans hret) hq hS'.2.2 hdr
  · exact W.vret B.exec B.bytes (B.returns.trans hret) hq hS'.2.2 hdr
theorem gi_cat_sum (ad : Nat → Nat) : ∀ st : List Value, ((st.map (gc_v ad)).map fun v => v.category).sum = gi_cat st := by
  intro st
  induction st with
  | nil => rfl
  | cons v t ih => simp only [List.map_cons, List.sum_cons, gi_cat, gc_cat, ih]
theorem gi_goodws {M : gi_M} (h : gi_in (.code (gi_name M) (gi_code M) (gi_maxL M) (gi_ret M)) = true) : GoodIn gi_AW (gi_ws_of M) := by
  intro w hw
  rcases List.mem_cons.mp hw with rfl | hw
  · exact ⟨gi_in_mem h, gi_AW_good (gi_in_mem h)⟩
  · exact ⟨hw, gi_AW_good hw⟩
set_option maxHeartbeats 4000000 in
theorem gi_sound {pr : Nat → gi_M} (hpr : ∀ j, gi_okM false pr (pr j)) : ∀ n, gi_G pr n := by
  intro n
  induction n with
  | zero => intro top M pc lv st h rv hf _ _ _ _ _ e; cases e
  | succ n ih =>
    intro top M pc lv st h rv hf hM wh wl ws h0 ex D ct p l e R s m args below meth c Q A b0 L xs ad ls H locs cells slots n0 s0 C hA hX hsc hl hw hRc hRs fin
    rw [gi_ex] at ex
    cases h1 : gi_look (gi_tab M) pc with
    | none => rw [h1] at ex; cases ex
    | some x =>
      rw [h1] at ex
      simp only at ex
      obtain ⟨hd, hok⟩ := gi_ok_at hM h1
      cases h2 : gi_go gi_df (gi_ret M) x pc lv st h with
      | none => rw [h2] at ex; cases ex
      | some o =>
        rw [h2] at ex
        match o, h2, ex with
        | .inl (pc', lv', st', h'), h2, ex =>
          obtain ⟨p1, p2, p3, p4, p5, p6, p7, p8⟩ := gi_go_P hok wh wl ws h0 h2
          obtain ⟨q1, q2, q3, q4, q5, q6⟩ := gi_ex_P hpr n top M pc' lv' st' h' rv hf hM p1 p2 p3 p4 ex
          refine gi_stepW C hA hX hsc hl hw wh wl ws h0 hd hok h2 (by omega) (by omega) (fun ls' ad' H' locs' cells' slots' ag hl' hw' => ?_)
          have hpos : 0 < h.length := by
            obtain ⟨⟨y, hy⟩, -⟩ := h0
            exact (List.getElem?_eq_some_iff.mp hy).1
          refine ih top M pc' lv' st' h' rv hf hM p1 p2 p3 p4 ex D ct p l e R s m args below meth c Q A b0 L xs ad' ls' H' locs' cells' slots' n0 s0 C hA hX (fun z => ⟨by rw [ag 0 hpos]; exact (hsc z).1, by rw [p8]; exact (hsc z).2⟩) hl' hw' hRc hRs (fun pcr insr lsr ad2 H2 locs2 cells2 slots2 u1 u2 u3 u4 => ?_)
          exact fin pcr insr lsr ad2 H2 locs2 cells2 slots2 u1 u2 (fun k hk => (u3 k (by omega)).trans (ag k hk)) u4
        | .inr (.inl rv'), h2, ex =>
          cases ex
          obtain ⟨r1, r2, r3⟩ := gi_go_ret h2
          rw [r2, r1.nr.map]
          rw [r3] at hd
          exact fin pc x.1 ls ad H locs cells slots hd r1 (fun _ _ => rfl) hw
        | .inr (.inr (j, as, rest)), h2, ex =>
          simp only at ex
          obtain ⟨c1, c2, c3, c4, c5⟩ := gi_go_call h2
          have ws' := ws
          rw [c3] at ws'
          obtain ⟨s1, s2⟩ := gi_ws_app.mp ws'
          cases h4 : Nat.ble (gi_en0 as).length (gi_maxL (pr j)) with
          | false => rw [h4] at ex; cases ex
          | true =>
            rw [h4] at ex
            simp only at ex
            cases h3 : gi_ex pr gi_df n (pr j) 0 (gi_en (gi_maxL (pr j)) as) [] h with
            | none => rw [h3] at ex; cases ex
            | some z =>
              rw [h3] at ex
              obtain ⟨w1, h1'⟩ := z
              simp only at ex
              have hl4 : (gi_en0 as).length ≤ gi_maxL (pr j) := Nat.le_of_ble_eq_true h4
              obtain ⟨q1, q2, q3, q4, q5, q6⟩ := gi_ex_P hpr n false (pr j) 0 _ [] h w1 h1' (hpr j) wh (gi_wl.entry (gi_ws_rev s1)) gi_ws_nil h0 h3
              obtain ⟨r1, r2, r3, r4, r5, r6⟩ := gi_ex_P hpr n top M (pc + 3) lv _ h1' rv hf hM q1 (wl.mono q4) (gi_ws_app.mpr ⟨q2.ws _, s2.mono q4⟩) q3 ex
              obtain ⟨hx, hb, hr, hml, hown, hts, hNW, hK, hlocks, hnm, hfr, hlo⟩ := id C
              obtain ⟨hP, hD, hS, hcc, hss⟩ := hw
              have hpos : 0 < h.length := by
                obtain ⟨⟨y, hy⟩, -⟩ := h0
                exact (List.getElem?_eq_some_iff.mp hy).1
              have hFc : ∀ q, va_A (gc_w ct ad h) H.size q → A q := by
                rintro q (⟨k, e1, hk⟩ | hk)
                · exact hD.2 k _ hk
                · exact hA q (Nat.le_trans hS.1 hk)
              -- behind the call
              have after : ∀ (ad' : Nat → Nat) (H1 : Heap) (locs1 : List Loc), (∀ k, k < h.length → ad' k = ad k) → va_P D gi_cls (gc_w ct ad' h1') H1 → va_D (va_A (gc_w ct ad h) H.size) (gc_w ct ad' h1') → va_S A s.heap H1 locs1 → W p l e R s m args below meth c H1 locs1 (cells + (h1'.length - h.length)) (slots + (gi_slots h1' - gi_slots h)) Q (F0 m (pc + 3) ls (w1.toList ++ rest.map (gc_v ad))) := by
                intro ad' H1 locs1 ag hP1 hD1 hS1
                have e1 : w1.toList ++ rest.map (gc_v ad) = (w1.toList ++ rest).map (gc_v ad') := by
                  rw [List.map_append, q2.map, gc_s_ag ag s2]
                rw [e1]
                refine ih top M (pc + 3) lv (w1.toList ++ rest) h1' rv hf hM q1 (wl.mono q4) (gi_ws_app.mpr ⟨q2.ws _, s2.mono q4⟩) q3 ex D ct p l e R s m args below meth c Q A b0 L xs ad' ls H1 locs1 _ _ n0 s0 C hA hX (fun z => ⟨by rw [ag 0 hpos]; exact (hsc z).1, by rw [q6]; exact (hsc z).2⟩) (hl.ag ag wl) ⟨hP1, hD1.weaken (fun k q _ hq => hFc _ hq), hS1, by omega, by omega⟩ hRc hRs (fun pcr insr lsr ad2 H2 locs2 cells2 slots2 u1 u2 u3 u4 => ?_)
                exact fin pcr insr lsr ad2 H2 locs2 cells2 slots2 u1 u2 (fun k hk => (u3 k (by omega)).trans (ag k hk)) u4
              -- the callee's start
              have pre : ∀ U : State, U.heap = H → s.WarmedH U.vm → va_Pc (as.map (gc_v ad)) (gi_B D ct ad h H.size) (as.map (gc_v ad)).toArray U := by
                intro U hU hW
                exact ⟨rfl, by rw [hU], by rw [hU]; exact hP, va_K.moved hW.alike hK, hD.weaken (fun _ _ _ _ => trivial), hNW.warm hW⟩
              have hroom : 2 * (F0 m pc ls (st.map (gc_v ad))).monitorRoom + ((rest.map (gc_v ad)).map fun v => v.category).sum ≤ 8 := lv_room (by rw [gi_cat_sum]; exact c4)
              have hcell : cells + (h1'.length - h.length) ≤ R.cells := by omega
              have hslot : slots + (gi_slots h1' - gi_slots h) ≤ R.slots := by omega
              obtain ⟨ins, a, b, v⟩ := x
              simp only at c1 c2 hd hok
              subst c1
              have okC : ∀ {k : Nat}, gi_okC M (pr j) k = true → plainFor (gi_name (pr j)) = true ∧ gi_own (pr j) = (gi_name (pr j)).cls ∧ gi_in (.code (gi_name (pr j)) (gi_code (pr j)) (gi_maxL (pr j)) (gi_ret (pr j))) = true ∧ gi_in (.initialized (gi_name (pr j)).cls) = true ∧ ((gi_name (pr j)).cls ≠ "java/lang/invoke/MethodHandle" ∧ (gi_name (pr j)).cls ≠ "java/lang/invoke/VarHandle" ∧ (parseMethodDescriptor (gi_name (pr j)).desc).map (fun d => d.parameters.length) = some k) ∧ ((gi_rm (pr j) (h1'.length - h.length) (gi_slots h1' - gi_slots h)).frames + 1 ≤ R.frames ∧ 8 + (gi_maxL (pr j) + 11) + (gi_rm (pr j) (h1'.length - h.length) (gi_slots h1' - gi_slots h)).locals ≤ R.locals) := by
                intro k hk
                simp only [gi_okC, gi_okCP, Bool.and_eq_true, decide_eq_true_eq] at hk
                obtain ⟨⟨⟨⟨⟨⟨⟨⟨k1, k2⟩, k3⟩, k4⟩, k5⟩, k6⟩, k7⟩, k8⟩, k9⟩ := hk
                refine ⟨k8, k9, k1, k2, ⟨k3, k4, k5⟩, ?_, ?_⟩
                · show gi_rk (pr j) + 1 ≤ R.frames
                  omega
                · show 8 + (gi_maxL (pr j) + 11) + 41 * gi_rk (pr j) ≤ R.locals
                  omega
              have S : CallFix p m c (gi_code M) (gi_maxL M) s args gi_AW (gi_own M) := ⟨hx, hb, hml, hown, hts⟩
              rcases c5 with ⟨i, d1, d2⟩ | ⟨i, ci, o, t, d1, d2, d3, d4⟩ | ⟨i, o, t, d1, d2, d3⟩
              · simp only at d1 d2
                subst d1
                simp only [gi_okI, gi_okIP, d2, Bool.and_eq_true] at hok
                obtain ⟨⟨o1, o2⟩, o3⟩ := hok
                obtain ⟨k8, k9, k1, k2, k3, k4⟩ := okC o3
                have hM1 := gi_met hpr ih (j := j) k8 k9 wh (gi_ws_rev s1) h0 hl4 h3 l D ct ad H.size
                have hstk : (F0 m pc ls (st.map (gc_v ad))).stack = (as.map (gc_v ad)).reverse ++ rest.map (gc_v ad) := by
                  show st.map (gc_v ad) = _
                  rw [c3, List.map_append, List.map_reverse]
                cases v with
                | ref k =>
                  have hn := hNW.1 _ (gi_inN_mem o1)
                  exact gi_contW (va_runSN (host := "AdmiralGuinea") S hM1 ⟨va_cnB b hts (gi_goodws k1) rfl rfl rfl hn (hts _ (gi_in_mem k2)) k3 k4, hts _ (gi_in_mem o2), trivial⟩ ⟨gi_blind, pre⟩ rfl (by rw [List.length_map]; exact c2) hl.2.1 hstk hroom hd ⟨hcell, hslot⟩) hS (fun q _ hq => hFc q hq) hFc after
                | _ =>
                  exact gi_contW (va_runS S hM1 ⟨callB_of b hts (gi_goodws k1) rfl rfl rfl (hts _ (gi_in_mem k2)) (hts _ (gi_in_mem o1)) k3 k4, hts _ (gi_in_mem o2)⟩ ⟨gi_blind, pre⟩ rfl (by rw [List.length_map]; exact c2) hl.2.1 hstk hroom hd ⟨hcell, hslot⟩) hS (fun q _ hq => hFc q hq) hFc after
              · simp only at d1 d2
                subst d1; subst d2; subst d3
                cases b with
                | zero => simp at c2
                | succ b =>
                  simp only [gi_okI, gi_okIP, Bool.and_eq_true] at hok
                  obtain ⟨⟨⟨⟨o0, o1⟩, o2⟩, o3⟩, o4⟩ := hok
                  cases hq : gi_cls[ci]? with
                  | none => rw [hq] at o0; cases o0
                  | some q =>
                    rw [hq] at o0
                    simp only [decide_eq_true_eq] at o0
                    obtain ⟨k8, k9, k1, k2, k3, k4⟩ := okC o4
                    have hM1 := gi_met hpr ih (j := j) k8 k9 wh (gi_ws_rev s1) h0 hl4 h3 l D ct ad H.size
                    have hstk : (F0 m pc ls (st.map (gc_v ad))).stack = (t.map (gc_v ad)).reverse ++ .ref (ad o) :: rest.map (gc_v ad) := by
                      show st.map (gc_v ad) = _
                      rw [c3, List.map_append, List.map_reverse, List.map_cons, List.reverse_cons]
                      simp [gc_v]
                    obtain ⟨fs, g1⟩ := gi_is_inv d4
                    obtain ⟨k, rfl⟩ := gi_h0_ne h0 g1 (fun _ q => by cases q)
                    have hrecv := va_recv hK hP hq (gc_w_get g1)
                    rw [o0] at hrecv
                    exact gi_contW (va_runV S hM1 ⟨callB_of b hts (gi_goodws k1) rfl rfl rfl (hts _ (gi_in_mem k2)) (hts _ (gi_in_mem o1)) k3 k4, hts _ (gi_in_mem o2), hts _ (gi_in_mem o3)⟩ ⟨gi_blind, hrecv, pre⟩ rfl (by rw [List.length_map]; simp at c2; exact c2) hl.2.1 hstk hroom hd ⟨hcell, hslot⟩) hS (fun q _ hq => hFc q hq) hFc after
              · simp only at d1 d2
                subst d1; subst d3
                cases b with
                | zero => simp at c2
                | succ b =>
                  simp only [gi_okI, gi_okIP, d2, Bool.and_eq_true, decide_eq_true_eq] at hok
                  obtain ⟨⟨⟨⟨o1, o2⟩, o3⟩, o4⟩, o5⟩ := hok
                  obtain ⟨k8, k9, k1, k2, k3, k4⟩ := okC o5
                  have hM1 := gi_met hpr ih (j := j) k8 k9 wh (gi_ws_rev s1) h0 hl4 h3 l D ct ad H.size
                  have hstk : (F0 m pc ls (st.map (gc_v ad))).stack = (t.map (gc_v ad)).reverse ++ .ref (ad o) :: rest.map (gc_v ad) := by
                    show st.map (gc_v ad) = _
                    rw [c3, List.map_append, List.map_reverse, List.map_cons, List.reverse_cons]
                    simp [gc_v]
                  have hcb := callB_of (own := gi_own M) (index := i) (ws' := gi_AW) b hts (gi_goodws k1) rfl (rm := gi_rm (pr j) (h1'.length - h.length) (gi_slots h1' - gi_slots h)) rfl rfl (hts _ (gi_in_mem k2)) (hts _ (gi_in_mem o1)) k3 k4
                  rw [o4] at hcb
                  exact gi_contW (va_runI S hM1 ⟨hcb, o3, hts _ (gi_in_mem o2)⟩ ⟨gi_blind, pre⟩ rfl (by rw [List.length_map]; simp at c2; exact c2) hl.2.1 hstk hroom hd ⟨hcell, hslot⟩) hS (fun q _ hq => hFc q hq) hFc after
