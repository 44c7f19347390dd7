/-! THE CLAIM OUT OF ONE WALK OF THE LAW'S BODY. Your part is whole_start (and what it stands on); all else here is the same for every law, but numbers. -/
def R_law : String := "AdmiralGuineaLaw"
def lw_P (b : Addr) (xs : List Int32) (args : Array Value) (s : State) : Prop := args = #[.ref b] ∧ s.IntsAt b xs ∧ xs.length ≤ 384 ∧ (Jvm.Cond.and given_1 narrow_1).before args s = true
def lw_Q (_ : Array Value) (s : State) (o : Outcome) (t : State) : Prop := o = .returned (some (.int 1)) ∧ Framed s o t [] 600000 7302249
def lw_Z (below : List Frame) (a : Array Value) (s : State) : State → Prop := fun t => ∃ o, t.status = .running ∧ Ended t below o ∧ lw_Q a s o t
/-- the law's own end, with 1 on the stack, nothing written that was there before, its room as the claim has it -/
theorem lw_ret {p : Program} {l : Launch} {e : Env} {s : State} {m : MethodId} {below : List Frame} {meth : Method} {c : Code} {b : Nat} (hx : p.tables.exec = Jvm.exec) (hb : c.code = code) (hr : meth.sig.returnType = ret) (hlocks : meth.locks = false) {pc : Nat} {H : Heap} {ls : Array Slot} (hdg : decode code pc = .ok (.ireturn, 1)) : W p l e room_1 s m #[Value.ref b] below meth c H [] 600000 7302249 (lw_Z below #[Value.ref b] s) (F0 m pc ls [.int 1]) := by
  intro T hT X
  obtain ⟨fs, hret, hrun, hended, hW, hframe⟩ := X.leave (v := some (.int 1)) (hlocks := hlocks) (fun h => by rw [hr] at h; cases h)
  have hmeth' : T.vm.method? m = some meth := X.method'
  refine ⟨T.setFrames fs, ?_, .returned (some (.int 1)), hrun, hended, rfl, ⟨_, rfl⟩, hW, hframe⟩
  jvm_step X.here [X.here.top, hx, hb, hdg, hmeth', hr, ret, narrow_b1]
  (try refine ⟨rfl, ?_⟩); (try refine ⟨rfl, ?_⟩)
  first | (intro acts; rw [hret _ acts rfl rfl rfl]) | rw [hret _ _ rfl rfl rfl]
  exact Steps.refl _
/-- what holds at the law's entry: the machine, the code, the tables' words (any of lw_tbl by 'hts w (by decide +kernel)'), the script of L ints xs at the cell b, what the Statement gives of the start (any of its parts by flat_of_before) -/
def lw_At (p : Program) (s : State) (m : MethodId) (meth : Method) (c : Code) (b L : Nat) (xs : Nat → Int32) : Prop :=
  p.tables.exec = Jvm.exec ∧ c.code = code ∧ meth.sig.returnType = ret ∧ c.maxLocals = 4 ∧ s.vm.findClass R_law = some m.cls ∧ (∀ w ∈ lw_tbl, w.before #[Value.ref b] s = true) ∧ va_X b L xs s s.heap ∧ b < s.heap.size ∧ meth.locks = false ∧ (Jvm.Cond.and given_1 narrow_1).before #[Value.ref b] s = true
/-! from here mine: the room, the tables' words, the walk out of the interpreter -/
def atp (h : gi_H) (j : Nat) : Prop := ∃ e, h[j]? = some e ∧ gi_sl e ≤ 384
theorem at_go {h : gi_H} {a c : Nat} {fs : List Value} (G : go h a c fs) (hc : gi_N c ≤ 384) : atp h a := ⟨_, G, hc⟩
theorem at_ga {h : gi_H} {a n : Nat} {g : Nat → Nat} (A : ga h a n g) (hn : n ≤ 384) : atp h a := by
  obtain ⟨f, e, -⟩ := A
  exact ⟨_, e, hn⟩
theorem at_bk {h : gi_H} {k : Nat} {N : Nat → Nat} {ns : Nat} {sg : Nat → Nat} (B : bk h k N ns sg) {j : Nat} (h1 : k ≤ j) (h2 : j < k + 10) : atp h j := by
  obtain ⟨b0, b1, b2, b3, b4, b5, b6, b7, b8, b9⟩ := B
  rcases (show j = k ∨ j = k + 1 ∨ j = k + 2 ∨ j = k + 3 ∨ j = k + 4 ∨ j = k + 5 ∨ j = k + 6 ∨ j = k + 7 ∨ j = k + 8 ∨ j = k + 9 by omega) with rfl | rfl | rfl | rfl | rfl | rfl | rfl | rfl | rfl | rfl
  · exact at_go b0 (by decide)
  · exact at_ga b1 (by decide)
  · exact at_ga b2 (by decide)
  · exact at_ga b3 (by decide)
  · exact at_ga b4 (by decide)
  · exact at_ga b5 (by decide)
  · exact at_ga b6 (by decide)
  · exact at_ga b7 (by decide)
  · exact at_ga b8 (by decide)
  · exact at_ga b9 (by decide)
theorem SS_at {h : gi_H} {L : Nat} {xs : Nat → Int32} (hL : L ≤ 384) (Q : SS h (scr L xs)) : h.length ≤ 60 ∧ ∀ j, j < h.length → atp h j := by
  obtain ⟨N, ns, sg, np, P, im, IM, K, S⟩ := Q
  obtain ⟨⟨a, b, c, d, e, s1⟩, ⟨x, y, z, s2⟩, ⟨g1, s3⟩, ⟨g2, s4⟩, ⟨g3, s5⟩, ⟨a', b', c', d', e', u', s6⟩, ⟨g4, s7⟩, ⟨g5, s8⟩, ⟨g6, s9⟩⟩ := S
  have hl := K.len
  obtain ⟨f30, i1, i2⟩ := K.img
  obtain ⟨f39, i3, i4⟩ := K.mkp
  have hl60 : h.length ≤ 60 := by
    rw [hl]
    split <;> split <;> omega
  refine ⟨hl60, fun j hj => ?_⟩
  rcases (show j = 0 ∨ j = 1 ∨ (2 ≤ j ∧ j < 2 + 10) ∨ j = 12 ∨ (13 ≤ j ∧ j < 13 + 10) ∨ j = 23 ∨ j = 24 ∨ j = 25 ∨ j = 26 ∨ j = 27 ∨ j = 28 ∨ j = 29 ∨ j = 30 ∨ j = 31 ∨ j = 32 ∨ j = 33 ∨ j = 34 ∨ j = 35 ∨ j = 36 ∨ j = 37 ∨ j = 38 ∨ j = 39 ∨ 40 ≤ j by omega) with rfl | rfl | w | rfl | w | rfl | rfl | rfl | rfl | rfl | rfl | rfl | rfl | rfl | rfl | rfl | rfl | rfl | rfl | rfl | rfl | rfl | w
  · exact ⟨_, K.c0, hL⟩
  · exact at_go K.cls (by decide)
  · exact at_bk K.bok w.1 w.2
  · exact at_go s1 (by decide)
  · exact at_bk s2 w.1 w.2
  · exact at_go K.pad (by decide)
  · exact at_ga K.pds (by decide)
  · exact at_go K.off (by decide)
  · exact at_ga s3 (by decide)
  · exact ⟨_, s4, show 6 ≤ 384 by decide⟩
  · exact at_go K.wor (by decide)
  · exact at_ga s5 (by decide)
  · exact ⟨_, i1, show 2 ≤ 384 by decide⟩
  · exact at_go s6 (by decide)
  · exact at_ga K.mbk (by decide)
  · exact at_ga s7 (by decide)
  · exact at_ga K.msg (by decide)
  · exact at_ga K.mpd (by decide)
  · exact at_ga s8 (by decide)
  · exact at_ga s9 (by decide)
  · exact at_ga K.mim (by decide)
  · exact ⟨_, i3, show 2 ≤ 384 by decide⟩
  · cases e0 : im 0 with
    | none =>
      cases e1 : im 1 with
      | none => rw [e0, e1] at hl; exact absurd hl (by simp; omega)
      | some q =>
        obtain ⟨k, N', ns', sg'⟩ := q
        obtain ⟨q1, q2, q3, -⟩ := K.ims 1 (by decide) k N' ns' sg' e1
        rw [e0, e1] at hl
        simp at hl
        exact at_bk q3 (by omega) (by omega)
    | some r =>
      obtain ⟨k0, N0', ns0, sg0⟩ := r
      obtain ⟨r1, r2, r3, -⟩ := K.ims 0 (by decide) k0 N0' ns0 sg0 e0
      cases e1 : im 1 with
      | none =>
        rw [e0, e1] at hl
        simp at hl
        exact at_bk r3 (by omega) (by omega)
      | some q =>
        obtain ⟨k, N', ns', sg'⟩ := q
        obtain ⟨q1, q2, q3, -⟩ := K.ims 1 (by decide) k N' ns' sg' e1
        have hd := K.dis _ _ e0 e1
        rw [e0, e1] at hl
        simp at hl
        have hd : k0 + 10 ≤ k ∨ k + 10 ≤ k0 := hd
        by_cases c : k0 ≤ j ∧ j < k0 + 10
        · exact at_bk r3 c.1 c.2
        · exact at_bk q3 (by omega) (by omega)
theorem sl_le : ∀ (h : gi_H), (∀ j, j < h.length → atp h j) → gi_slots h ≤ 384 * h.length := by
  intro h
  induction h with
  | nil => intro _; exact Nat.le_refl _
  | cons x t ih =>
    intro H
    have h1 := ih (fun j hj => by
      have := H (j + 1) (by simp; omega)
      obtain ⟨e, e1, e2⟩ := this
      exact ⟨e, by simpa using e1, e2⟩)
    obtain ⟨e, e1, e2⟩ := H 0 (by simp)
    have e3 : x = e := by simpa using e1
    rw [← e3] at e2
    show gi_sl x + gi_slots t ≤ 384 * (t.length + 1)
    omega
theorem w_arr {s : State} {A : Array Value} {ty : FieldType} (h : (Cond.arrayClass ty).before A s = true) : ∃ c, ArrOfT s c ty ∧ s.vm.findClass ("[" ++ ty.toString) = some c := by
  obtain ⟨c, k, comp, f1, f2, f3⟩ := Cond.arrayClass_spec h
  exact ⟨c, fun N z => ⟨(fun k h => by cases h), k, f2, comp, f3⟩, f1⟩
theorem w_nest {w : Jvm.Cond} (h : w ∈ gi_nest) : w.onTables = true := by
  have h2 := (List.mem_filter.mp h).2
  cases w with
  | methodLinkNest a i x q => rfl
  | _ => cases h2
set_option maxRecDepth 100000 in
set_option maxHeartbeats 4000000 in
/-- from the entry, for every script of at most 384 ints, the law comes to its end with true -/
theorem whole_start {p : Program} {e : Env} {s : State} {m : MethodId} {below : List Frame} {meth : Method} {c : Code} (l : Launch) {b L : Nat} {xs : Nat → Int32} (hL : L ≤ 384) (C0 : lw_At p s m meth c b L xs) (hnm : meth.name = x.name) : W p l e room_1 s m #[Value.ref b] below meth c s.heap [] 0 0 (lw_Z below #[Value.ref b] s) (entryFrame m ([Value.ref b] : List Value).toArray 4) := by
  obtain ⟨hx, hb, hr, hml, hown, hts, hX, hbl, hlocks, hgv⟩ := id C0
  have hAW : ∀ w ∈ gi_AW, w.before #[Value.ref b] s = true := fun w hw => hts w (List.mem_filter.mp hw).1
  obtain ⟨a0, q0, r0⟩ := w_arr (hts (.arrayClass .int) (by decide +kernel))
  obtain ⟨a1, q1, r1⟩ := w_arr (hts (.arrayClass .long) (by decide +kernel))
  obtain ⟨a2, q2, r2⟩ := w_arr (hts (.arrayClass .boolean) (by decide +kernel))
  have hao : va_AO gi_Bk s := va_AO.of (hts (.arrayOver (.object gi_Bk)) (by decide +kernel))
  obtain ⟨comp, a3, k3, t1, t2, t3, t4, t5⟩ := Cond.arrayOver_spec hao
  have hNW : gi_NW s := ⟨fun w hw => va_Nw.of (w_nest hw) (hts w (List.mem_filter.mp hw).1), hao⟩
  have hU : ∀ k : Nat, ∃ y : ClassId × (Nat → Nat), ∀ q : vw_C, gi_cls[k]? = some q → u_Kn s q.1 q.2.1 q.2.2 y.1 y.2 := by
    intro k
    cases hq : gi_cls[k]? with
    | none => exact ⟨(a0, fun _ => 0), fun q z => by cases z⟩
    | some q0 =>
      have hin := gi_win k q0 hq
      have hi : ∃ n, (Cond.instantiable q0.1 n).before #[Value.ref b] s = true := gi_cls_cases (P := fun _ q => ∃ n, (Cond.instantiable q.1 n).before #[Value.ref b] s = true) ⟨15, hts (.instantiable RX0 15) (by decide +kernel)⟩ ⟨6, hts (.instantiable RX1 6) (by decide +kernel)⟩ ⟨2, hts (.instantiable RX2 2) (by decide +kernel)⟩ ⟨2, hts (.instantiable RX3 2) (by decide +kernel)⟩ ⟨1, hts (.instantiable RX4 1) (by decide +kernel)⟩ ⟨6, hts (.instantiable RX5 6) (by decide +kernel)⟩ ⟨16, hts (.instantiable RX6 16) (by decide +kernel)⟩ k q0 hq
      obtain ⟨n, hi⟩ := hi
      obtain ⟨cC, iS, hk⟩ := u_known (ws := gi_AW) hAW hin hi
      exact ⟨(cC, iS), fun q z => by cases z; exact hk⟩
  obtain ⟨F, hF⟩ := Classical.axiomOfChoice hU
  obtain ⟨ct, hct⟩ : ∃ ct : Nat → ClassId, ct = fun k => if k = 0 then a0 else if k = 1 then a1 else if k = 2 then a2 else a3 := ⟨_, rfl⟩
  have hc0 : ct 0 = a0 := by rw [hct]; rfl
  have hc1 : ct 1 = a1 := by rw [hct]; rfl
  have hc2 : ct 2 = a2 := by rw [hct]; rfl
  have hc3 : ct 3 = a3 := by rw [hct]; rfl
  have hK : va_K ((fun k => (F k).1), (fun k => (F k).2)) gi_cls (gi_tyl ct) s := by
    refine ⟨fun k q hq => hF k q hq, fun k q hq => ?_⟩
    match k, hq with
    | 0, hq => cases hq; rw [hc0]; exact ⟨q0, r0⟩
    | 1, hq => cases hq; rw [hc1]; exact ⟨q1, r1⟩
    | 2, hq => cases hq; rw [hc2]; exact ⟨q2, r2⟩
    | 3, hq => cases hq; rw [hc3]; exact ⟨fun N z => ⟨(fun k h => by cases h), k3, t3, comp, t4⟩, k3, comp, t3, t4, t1, t5⟩
    | k + 4, hq => simp at hq
  obtain ⟨h', ef, QQ⟩ := law_all xs hL [scr L xs] rfl rfl
  obtain ⟨n, ex⟩ := e_L_law [scr L xs] 0 (1, h') ef
  obtain ⟨hl60, hat⟩ := SS_at hL QQ
  have hsl := sl_le h' hat
  have hws : gi_ws (List.length [scr L xs]) [Value.ref 0] := by
    intro v hv
    rw [List.mem_singleton.mp hv]
    exact Nat.one_pos
  have hwh : gi_wh [scr L xs] := by
    intro o e1 he
    cases o with
    | zero => cases he; trivial
    | succ o => simp at he
  have hh0 : gi_h0 [scr L xs] := by
    refine ⟨⟨(L, .inl xs), rfl⟩, fun o y hy => ?_⟩
    cases o with
    | zero => rfl
    | succ o => simp at hy
  rw [lg_entry_eq]
  refine gi_sound ok_all n true M_L_law 0 [some (.ref 0), none, none, none] [] [scr L xs] (some (.int 1)) h' ok_law hwh (gi_wl.entry (n := 4) hws) gi_ws_nil hh0 ex ((fun k => (F k).1), (fun k => (F k).2)) ct p l e room_1 s m #[Value.ref b] below meth c (lw_Z below #[Value.ref b] s) (fun q => s.heap.size ≤ q) b L xs (fun _ => b) _ s.heap [] 0 0 1 L ⟨hx, hb, hr, hml, hown, hAW, hNW, hK, hlocks, hnm, Nat.le_of_ble_eq_true rfl, Nat.le_of_ble_eq_true rfl⟩ (fun q hq => hq) (fun _ => ⟨hX, hbl, Nat.not_le.mpr hbl⟩) (fun _ => ⟨rfl, rfl⟩) (gi_L.entry (fun _ => b) (as := [Value.ref 0]) (by decide)) ⟨fun k q z => by simp [gc_w, gc_wf] at z, ⟨fun i j p q z => by simp [gc_w, gc_wf] at z, fun k q z => by simp [gc_w, gc_wf] at z⟩, va_S.rf, rfl, by show 0 + L = L + 0; omega⟩ (by show _ ≤ 1 + 600000; omega) (by show _ ≤ L + 7302249; omega) ?_
  intro pcr insr lsr ad' H' locs' cells' slots' hdec hrt hag hw
  obtain ⟨hP', hD', hS', hc', hs'⟩ := hw
  rcases hrt with ⟨rfl, -⟩ | ⟨-, -, x, hx⟩ | ⟨-, -, hx⟩
  · refine va_forget (fun q hq => hS'.2.2 q hq) ?_
    refine W.widen (k := 600000) (n := 7302249) (by omega) (by omega) ?_
    exact lw_ret hx hb hr hlocks hdec
  · cases hx
  · cases hx
set_option maxHeartbeats 4000000 in
theorem lw_walk (l : Launch) (b : Addr) (xs : List Int32) : MetFree l x (headSpec (Jvm.Cond.code x code maxLocals ret :: tables_1) room_1) (lw_P b xs) (fun _ _ _ _ _ => True) lw_Q := by
  refine MetFree.of_bodyS (code := code) (maxLocals := maxLocals) (ret := ret) (by decide) ?_ ?_
  · intro args s m h hn
    obtain ⟨meth, c, h1, h2, h3, h4, h5, h6, -, -⟩ := Cond.code_spec hn (atoms_spec (ws := Jvm.Cond.code x code maxLocals ret :: tables_1) h _ List.mem_cons_self)
    exact ⟨meth, c, h1, h2, h3, h4, h5, h6⟩
  · intro p e s m args below meth c s₁ B hml0 hP _
    obtain ⟨rfl, hx, hbd, hgv⟩ := hP
    obtain ⟨scr, harrAt, hlist, hof, hsmall⟩ := hx
    obtain ⟨hcb, hkn, -, -⟩ := State.arrayAt?_spec harrAt
    have hown : s.vm.findClass R_law = some m.cls := findClass_of_methodNamed B.named
    have hts0 : ∀ c ∈ (Jvm.Cond.code x code maxLocals ret :: tables_1), c.before #[Value.ref b] s = true := atoms_spec (ws := Jvm.Cond.code x code maxLocals ret :: tables_1) B.pre
    have hts : ∀ w ∈ lw_tbl, w.before #[Value.ref b] s = true := k2_hts_sels lw_privs (fun w hw => hts0 w (List.mem_cons_of_mem _ hw)) lw_privs_ok
    have hml : c.maxLocals = 4 := B.maxLocals_eq (hts0 _ List.mem_cons_self)
    have X₀ : Stand p l e room_1 s m #[Value.ref b] below meth c s₁ [] 0 0 := Stand.of_body B
    have hh0 : s₁.heap = s.heap := by rw [B.state]; rfl
    have hsz : scr.slots.size = xs.length := by rw [← Array.length_toList, hlist, List.length_map]
    have hval : ∀ j : Nat, j < xs.length → scr.slots[j]? = some (.int (xs.getD j 0)) := fun j hj => by
      rw [← Array.getElem?_toList, hlist]
      simp [hj]
    have hbl : b < s.heap.size := (Array.getElem?_eq_some_iff.mp hcb).1
    have hX : va_X b xs.length (fun j => xs.getD j 0) s s.heap := ⟨scr, hcb, hof, hkn, hsz, hval⟩
    have K : W p l e room_1 s m #[Value.ref b] below meth c s₁.heap [] 0 0 (lw_Z below #[Value.ref b] s) (entryFrame m ([Value.ref b] : List Value).toArray 4) := by
      rw [hh0]
      exact whole_start l hbd ⟨B.exec, B.bytes, B.returns, hml, hown, hts, hX, hbl, B.notSynchronized, hgv⟩ (name_of_methodNamed B.named B.method).1
    obtain ⟨t, a1, o, b1, b2, b3⟩ := K s₁ rfl X₀
    exact ⟨t, o, a1, b1, b2, b3⟩
theorem lw_pre_spec {args : Array Value} {s : State} (h : (Jvm.Cond.and given_1 narrow_1).before args s = true) (hr : rest_1_c.before args s = true) : ∃ (b : Addr) (xs : List Int32), lw_P b xs args s := by
  have hs := flat_of_before _ h
  have hq := flat_of_before _ hr
  have hc : (Cond.count 1).before args s = true := hs _ (by decide +kernel)
  have harr : (Cond.arrayOf (.arg 0) .int).before args s = true := hs _ (by decide +kernel)
  have hle : (Cond.le (.length (.arg 0)) (.int 384)).before args s = true := hs _ (by decide +kernel)
  have hlen : (Cond.isInt (.length (.arg 0))).before args s = true := hq _ (by decide +kernel)
  have hall : (Cond.all (.arg 0) (.isInt (.elem (.arg 0) (.index 0)))).before args s = true := hq _ (by decide +kernel)
  obtain ⟨b, xs, hb, hx⟩ := State.ints_of_pre rfl harr hlen hall
  have hsm : xs.length < 2 ^ 31 := hx.choose_spec.2.2.2
  have hev : (Term.length (.arg 0)).eval args s none [] s = some (.int xs.length.toInt32) := hx.length_eval hb
  have hv := Cond.le_ints hev (show (Term.int 384).eval args s none [] s = some (.int 384) from rfl)
  have hd : xs.length.toInt32 ≤ 384 := by
    simpa [Cond.before, Cond.holds, hv] using hle
  have hN : xs.length ≤ 384 := (Int32.ofNat_le_ofNat hsm (by decide)).mp (show Int32.ofNat xs.length ≤ Int32.ofNat 384 from hd)
  exact ⟨b, xs, Cond.one_arg hc (show args[0]? = some (.ref b) from hb), hx, hN, h⟩
theorem lw_comes (l : Launch) : Comes l x (Jvm.Cond.code x code maxLocals ret :: tables_1) room_1 (fun tb e args s => Calls_1 tb e args s ∧ rest_1 tb e args s ∧ Pre_1 tb e args s)
    (fun _ _ args s o t => lw_Q args s o t) := by
  intro p e ha hc hk s m args below hf hfit hheap happ hpre
  obtain ⟨b, xs, hP⟩ := lw_pre_spec hpre.2.2 hpre.2.1
  obtain ⟨k, o, h1, h2, h3, hQ⟩ := lw_walk l b xs p e ha hc hk s m args below hf ((Spec.applies_iff_loose hf).mp happ).1 hP trivial
  exact ⟨k, o, h1, h2, h3, hQ⟩
theorem lw_frame {s t : State} {o : Outcome} {args : Array Value} (h : Framed s o t [] 600000 7302249) :
    Framed s o t (fieldLocs frame_1_writes args s ++ arrayLocs frame_1_arrays args s ++ staticLocs frame_1_statics s) 600000 7302249 := h
theorem lw_limb (L : Cond) (hL : ∀ (args : Array Value) (s t : State), L.after args s (.returned (some (.int 1))) t = true) :
    ArmFor flags0 classFile x code maxLocals ret World_1 tables_1 room_1 Calls_1 rest_1 Pre_1
      (fun tb e a s o t => postC L tb e a s o t ∧ Framed s o t (fieldLocs frame_1_writes a s ++ arrayLocs frame_1_arrays a s ++ staticLocs frame_1_statics s) 600000 7302249) := by
  intro l _ _ _ p e ha hc hk s m args below hf hfit hheap happ hpre
  obtain ⟨k, o, h1, h2, h3, rfl, hF⟩ := lw_comes l p e ha hc hk s m args below hf hfit hheap happ hpre
  exact ⟨k, _, h1, h2, h3, hL args s _, lw_frame hF⟩
theorem i_vc : Claimed_1_1 ∧ Claimed_1_2 := ⟨lw_limb limb_1_1 (fun args s t => by simp [limb_1_1, Cond.after, Cond.holds, Cond.value]), lw_limb limb_1_2 (fun args s t => Cond.after_iff.mpr (by
  first | (rw [show limb_1_2 = Cond.eq .result (.int 1) from rfl, Cond.eq_ints (x := 1) (y := 1) rfl rfl]; simp; done) | (simp [limb_1_2, Cond.value, Term.eval]; done)))⟩
