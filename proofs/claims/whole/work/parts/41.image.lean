/-! IMAGES KEPT -/
section IMAGE
variable {h : gi_H} {c0 : va_E} {N : Nat → Nat} {ns : Nat} {sg : Nat → Nat} {np : Nat} {P : Nat → Nat} {im : Nat → gi_Im} {IM : Nat → Nat}
def imok (i : Nat) (N : Nat → Nat) (ns : Nat) (sg IM g : Nat → Nat) : Prop := (∀ q, q < 63 → g (100 * i + q) = N q) ∧ (∀ q, q < 24 → g (100 * i + 63 + q) = sg q) ∧ g (100 * i + 90) = ns ∧ ∀ q, q < 100 * i ∨ 100 * i + 100 ≤ q → g q = IM q
theorem m_img2 {a : Int32} {b : Bool} {c d e : Int32} {u : Int64} {i : Nat} (hi : i < 2) {f : Nat → Int32} : ∀ (n j : Nat) (h : gi_H) (g : Nat → Nat), j ≤ 24 → 24 - j < n → go h 31 6 (mf ns np a b c d e u) → ga h 34 24 sg → ga h 38 200 g → h[39]? = some (.inl (2, 2, .inl f)) → (∀ q, q < 63 → g (100 * i + q) = N q) → (∀ q, q < j → g (100 * i + 63 + q) = sg q) → (∀ q, q < 100 * i ∨ 100 * i + 100 ≤ q → g q = IM q) → ∃ h' g', f_X6_image_45 n h 31 (nI i) (nI j) = some (1, h') ∧ ga h' 38 200 g' ∧ imok i N ns sg IM g' ∧ (∃ f', h'[39]? = some (.inl (2, 2, .inl f')) ∧ ∀ q, f' q = if q = i then 1 else f q) ∧ gfr [38, 39] h h' := by
  intro n
  induction n with
  | zero => intro j h g _ hn; omega
  | succ n ih =>
    intro j h g hj hn G Q A E h1 h2 h3
    obtain ⟨r, r0, r1, r2, r3, r4, r5, r6, r7, r8, r9, r10, r11, r12, r13, r14, r15⟩ := mf_rd G
    unfold f_X6_image_45
    rw [n_ifge 24 24 rfl (by omega) (by decide)]
    rcases Nat.lt_or_ge j 24 with hlt | hge
    · rw [if_neg (by omega), r3, r14]
      simp only [Option.bind_some]
      rw [ga_rd Q hlt (by decide)]
      simp only [Option.bind_some]
      obtain ⟨h4, e4, A4, f4⟩ := ga_wl A (n_163 i j) (by omega) (by decide) (sg j)
      rw [e4]
      simp only [Option.bind_some]
      rw [nI_1]
      obtain ⟨h5, g5, e5, A5, i5, k5, f5⟩ := ih (j + 1) h4 _ (by omega) (by omega) (G.fr f4 (by decide)) (Q.fr f4 (by decide)) A4 (by rw [f4.2 39 (by decide)]; exact E) (fun q hq => by rw [gu_ne _ _ (by omega)]; exact h1 q hq) (fun q hq => by
        by_cases z : q = j
        · rw [z, gu_self]
        · rw [gu_ne _ _ (by omega)]; exact h2 q (by omega)) (fun q hq => by rw [gu_ne _ _ (by omega)]; exact h3 q hq)
      exact ⟨h5, g5, e5, A5, i5, k5, (f4.mono (by decide)).trans f5⟩
    · rw [if_pos (by omega)]
      unfold f_X6_image_77
      rw [r14, r2]
      simp only [Option.bind_some]
      obtain ⟨h4, e4, A4, f4⟩ := ga_wl A (show (100 : Int32) * nI i + 90 = nI (100 * i + 90) from n_100 i 90) (by omega) (by decide) ns
      rw [e4]
      simp only [Option.bind_some]
      have G4 := G.fr f4 (by decide)
      rw [(mf_rd G4).2.2.2.2.2.2.2.2.2.2.2.2.2.2.2.2]
      simp only [Option.bind_some]
      have E4 : h4[39]? = some (.inl (2, 2, .inl f)) := by rw [f4.2 39 (by decide)]; exact E
      have e5 : gi_pi h4 39 2 (nI i) 1 = some (h4.set 39 (.inl (2, 2, .inl (upd f i 1)))) := by
        unfold gi_pi
        rw [E4]
        simp only
        rw [if_pos ⟨trivial, nI_in hi (by decide)⟩, nI_clamp (by omega)]
      rw [e5]
      have f5 : gfr [39] h4 (h4.set 39 (.inl (2, 2, .inl (upd f i 1)))) := gfr_set _ _
      refine ⟨_, _, rfl, A4.fr f5 (by decide), ⟨fun q hq => ?_, fun q hq => ?_, gu_self _ _ _, fun q hq => ?_⟩, ⟨upd f i 1, ?_, fun q => rfl⟩, (f4.mono (by decide)).trans (f5.mono (by decide))⟩
      · rw [gu_ne _ _ (by omega)]; exact h1 q hq
      · rw [gu_ne _ _ (by omega)]; exact h2 q (by omega)
      · rw [gu_ne _ _ (by omega)]; exact h3 q hq
      · rw [List.getElem?_set_self (List.getElem?_eq_some_iff.mp E4).1]
theorem m_img1 {a : Int32} {b : Bool} {c d e : Int32} {u : Int64} {i : Nat} (hi : i < 2) {f : Nat → Int32} : ∀ (n j : Nat) (h : gi_H) (g : Nat → Nat), j ≤ 63 → 63 - j < n → go h 31 6 (mf ns np a b c d e u) → ga h 32 63 N → ga h 34 24 sg → ga h 38 200 g → h[39]? = some (.inl (2, 2, .inl f)) → (∀ q, q < j → g (100 * i + q) = N q) → (∀ q, q < 100 * i ∨ 100 * i + 100 ≤ q → g q = IM q) → ∃ h' g', f_X6_image_14 n h 31 (nI i) (nI j) = some (1, h') ∧ ga h' 38 200 g' ∧ imok i N ns sg IM g' ∧ (∃ f', h'[39]? = some (.inl (2, 2, .inl f')) ∧ ∀ q, f' q = if q = i then 1 else f q) ∧ gfr [38, 39] h h' := by
  intro n
  induction n with
  | zero => intro j h g _ hn; omega
  | succ n ih =>
    intro j h g hj hn G B Q A E h1 h3
    obtain ⟨r, r0, r1, r2, r3, r4, r5, r6, r7, r8, r9, r10, r11, r12, r13, r14, r15⟩ := mf_rd G
    unfold f_X6_image_14
    rw [n_ifge 63 63 rfl (by omega) (by decide)]
    rcases Nat.lt_or_ge j 63 with hlt | hge
    · rw [if_neg (by omega), r0, r14]
      simp only [Option.bind_some]
      rw [ga_rd B hlt (by decide)]
      simp only [Option.bind_some]
      obtain ⟨h4, e4, A4, f4⟩ := ga_wl A (n_100 i j) (by omega) (by decide) (N j)
      rw [e4]
      simp only [Option.bind_some]
      rw [nI_1]
      obtain ⟨h5, g5, e5, A5, i5, k5, f5⟩ := ih (j + 1) h4 _ (by omega) (by omega) (G.fr f4 (by decide)) (B.fr f4 (by decide)) (Q.fr f4 (by decide)) A4 (by rw [f4.2 39 (by decide)]; exact E) (fun q hq => by
        by_cases z : q = j
        · rw [z, gu_self]
        · rw [gu_ne _ _ (by omega)]; exact h1 q (by omega)) (fun q hq => by rw [gu_ne _ _ (by omega)]; exact h3 q hq)
      exact ⟨h5, g5, e5, A5, i5, k5, (f4.mono (by decide)).trans f5⟩
    · rw [if_pos (by omega)]
      exact m_img2 hi gi_F 0 h g (by omega) (by decide) G Q A E (fun q hq => h1 q (by omega)) (fun q hq => by omega) h3
/-- the class makes a place for the image, or has one -/
theorem c_place (K : Core h c0 N ns sg np P im IM) {i : Nat} (hi : i < 2) : ∃ h8 k M m s, f_X5_image h 1 (nI i) = f_X5_image_34 h8 1 (nI i) ∧ bk h8 k M m s ∧ (∀ j, j < 40 → j ≠ 30 → h8[j]? = h[j]?) ∧ 40 ≤ k ∧ k + 10 ≤ h8.length ∧
    (∃ f : Nat → Option Nat, h8[30]? = some (.inl (3, 2, .inr (.inr (.inr (.inr f))))) ∧ ∀ q, q < 2 → f q = if q = i then some k else (im q).map (fun x => x.1)) ∧
    h8.length = 40 + (if i = 0 ∨ (im 0).isSome then 10 else 0) + (if i = 1 ∨ (im 1).isSome then 10 else 0) ∧
    (∀ q, q < 2 → q ≠ i → ∀ k' N' ns' sg', im q = some (k', N', ns', sg') → k' + 10 ≤ h8.length ∧ bk h8 k' N' ns' sg' ∧ (k' + 10 ≤ k ∨ k + 10 ≤ k')) := by
  obtain ⟨ci, c1, c2, c3, c4, c5, c6⟩ := cls_rd K
  have n1 := in_nI 0 1 rfl rfl (by decide) (Nat.zero_le i) (show i ≤ 1 by omega)
  have hq := i_aq K hi
  have hlen := K.len
  obtain ⟨f, ef, hf⟩ := K.img
  unfold f_X5_image
  rw [n1, c6]
  simp only [Option.bind_some]
  rw [if_neg i1_ne0, hq]
  simp only [Option.bind_some]
  cases him : im i with
  | some v =>
    obtain ⟨k, M, m, s⟩ := v
    obtain ⟨w1, w2, w3, -⟩ := K.ims i hi k M m s him
    refine ⟨h, k, M, m, s, rfl, w3, fun j _ _ => rfl, w1, w2, ⟨f, ef, fun q hq => ?_⟩, ?_, ?_⟩
    · by_cases z : q = i
      · rw [if_pos z, hf q hq, z, him]; rfl
      · rw [if_neg z, hf q hq]
    · rw [hlen]
      rcases (show i = 0 ∨ i = 1 by omega) with rfl | rfl
      · rw [him]; simp
      · rw [him]; simp
    · intro q hq hne k' N' ns' sg' e
      obtain ⟨u1, u2, u3, -⟩ := K.ims q hq k' N' ns' sg' e
      refine ⟨u2, u3, ?_⟩
      rcases (show (i = 0 ∧ q = 1) ∨ (i = 1 ∧ q = 0) by omega) with ⟨rfl, rfl⟩ | ⟨rfl, rfl⟩
      · exact (K.dis _ _ him e).symm
      · exact K.dis _ _ e him
  | none =>
    simp only [Option.map_none]
    obtain ⟨h7, e7, l7, x7, B7⟩ := d_init h
    have h40 : 40 ≤ h.length := by rw [hlen]; omega
    have ef7 : h7[30]? = some (.inl (3, 2, .inr (.inr (.inr (.inr f))))) := by rw [x7 30 (by omega)]; exact ef
    have e8 : gi_pq h7 30 (nI i) h.length 0 = some (h7.set 30 (.inl (3, 2, .inr (.inr (.inr (.inr (va_up f i (some h.length)))))))) := by
      unfold gi_pq
      rw [ef7]
      simp only
      rw [if_pos ⟨trivial, nI_in hi (by decide), (bk_rd B7).1⟩, nI_clamp (by omega)]
    have f8 : gfr [30] h7 (h7.set 30 (.inl (3, 2, .inr (.inr (.inr (.inr (va_up f i (some h.length)))))))) := gfr_set _ _
    refine ⟨_, h.length, N0, 0, fun _ => 0, ?_, B7.fr f8 ?_, ?_, h40, by rw [f8.1, l7]; omega, ⟨va_up f i (some h.length), ?_, ?_⟩, ?_, ?_⟩
    · unfold gi_new
      simp only [Option.bind_some]
      rw [e7]
      simp only [Option.bind_some]
      rw [e8]
      rfl
    · intro j hj z
      simp only [bkl, List.mem_cons, List.not_mem_nil, or_false] at hj z
      omega
    · intro j hj hne
      rw [f8.2 j (by simp; exact hne), x7 j (by omega)]
    · rw [List.getElem?_set_self (List.getElem?_eq_some_iff.mp ef7).1]
    · intro q hq
      show (if q = i then some h.length else f q) = _
      by_cases z : q = i
      · rw [if_pos z, if_pos z]
      · rw [if_neg z, if_neg z, hf q hq]
    · rw [f8.1, l7, hlen]
      rcases (show i = 0 ∨ i = 1 by omega) with rfl | rfl
      · rw [him]; simp; omega
      · rw [him]; simp
    · intro q hq hne k' N' ns' sg' e
      obtain ⟨u1, u2, u3, -⟩ := K.ims q hq k' N' ns' sg' e
      have u4 : bk h7 k' N' ns' sg' := u3.keep (fun j hj => by
        simp only [bkl, List.mem_cons, List.not_mem_nil, or_false] at hj
        exact x7 j (by omega))
      refine ⟨by rw [f8.1, l7]; omega, u4.fr f8 ?_, Or.inl u2⟩
      intro j hj z
      simp only [bkl, List.mem_cons, List.not_mem_nil, or_false] at hj z
      omega
theorem k_image (K : Core h c0 N ns sg np P im IM) (S : Scr h ns np) (x : Int32) : WW h c0 (fun h => f_X5_image h 1 x) (fun h => f_X6_image h 31 x) := by
  obtain ⟨⟨s1, s2, s3, s4, s5, S1⟩, ⟨t1, t2, t3, S2⟩, ⟨g1, S3⟩, ⟨g2, S4⟩, ⟨g3, S5⟩, ⟨a, b, c, d, e, u, G⟩, ⟨g4, S7⟩, ⟨g5, S8⟩, ⟨g6, S9⟩⟩ := id S
  rcases ar_in 0 1 0 1 rfl rfl (by decide) (by decide) x with ⟨n1, n2⟩ | ⟨i, -, hi, rfl, n1, n2⟩
  · exact WW.same K S (v := -2) (by unfold f_X5_image; rw [n1]; rfl) (by unfold f_X6_image; rw [n2]; rfl)
  have hi : i < 2 := by omega
  obtain ⟨h8, k, M, m, s, e8, B8, x8, hk, hk2, ⟨f, ef, hf⟩, l8, o8⟩ := c_place K hi
  have kp : ∀ {j : Nat}, j < 40 → j ≠ 30 → h8[j]? = h[j]? := fun {j} h1 h2 => x8 j h1 h2
  have kb : ∀ {q : Nat} {X : Nat → Nat} {y : Nat} {Z : Nat → Nat}, q + 10 ≤ 30 → bk h q X y Z → bk h8 q X y Z := fun {q X y Z} hq B => B.keep (fun j hj => by
    simp only [bkl, List.mem_cons, List.not_mem_nil, or_false] at hj
    exact x8 j (by omega) (by omega))
  have C8 : go h8 1 5 cls5 := K.cls.keep (kp (by decide) (by decide))
  have O8 : bk h8 2 N ns sg := kb (by decide) K.bok
  have dj : ∀ j, j ∈ bkl 2 → j ∉ bkl k := by
    intro j hj z
    simp only [bkl, List.mem_cons, List.not_mem_nil, or_false] at hj z
    omega
  obtain ⟨h9, e9, B9, f9⟩ := d_copy B8 O8 dj
  have lo : ∀ {j : Nat}, j < 40 → j ∉ bkl k := by
    intro j hj z
    simp only [bkl, List.mem_cons, List.not_mem_nil, or_false] at z
    omega
  have G9 : go h9 31 6 (mf ns np a b c d e u) := (G.keep (kp (by decide) (by decide))).fr f9 (lo (by decide))
  have hq9 : gi_aq h8 30 (nI i) = some (some k) := by
    unfold gi_aq
    rw [ef]
    simp only
    rw [if_pos ⟨trivial, nI_in hi (by decide)⟩, nI_clamp (by omega), hf i hi, if_pos rfl]
  obtain ⟨fk, ek, hfk⟩ := K.mkp
  obtain ⟨h10, g', e10, A10, i10, ⟨f', ef', hf'⟩, f10⟩ := m_img1 (N := N) (IM := IM) (ns := ns) (np := np) (sg := sg) hi gi_F 0 h9 IM (by omega) (by decide) G9 ((K.mbk.keep (kp (by decide) (by decide))).fr f9 (lo (by decide))) ((K.msg.keep (kp (by decide) (by decide))).fr f9 (lo (by decide))) ((K.mim.keep (kp (by decide) (by decide))).fr f9 (lo (by decide))) (by rw [f9.2 39 (lo (by decide)), kp (by decide) (by decide)]; exact ek) (fun q hq => by omega) (fun q _ => rfl)
  have all : ∀ {j : Nat}, j < 40 → j ≠ 30 → j ∉ [38, 39] → h10[j]? = h[j]? := fun {j} h1 h2 h3 => by rw [f10.2 j h3, f9.2 j (lo h1), kp h1 h2]
  have ab : ∀ {q : Nat} {X : Nat → Nat} {y : Nat} {Z : Nat → Nat}, q + 10 ≤ 30 → bk h q X y Z → bk h10 q X y Z := fun {q X y Z} hq B => B.keep (fun j hj => by
    simp only [bkl, List.mem_cons, List.not_mem_nil, or_false] at hj
    exact all (by omega) (by omega) (by simp; omega))
  have B10 : bk h10 k N ns sg := B9.fr f10 (by
    intro j hj z
    simp only [bkl, List.mem_cons, List.not_mem_nil, or_false] at hj z
    omega)
  have l10 : h10.length = h8.length := by rw [f10.1, f9.1]
  obtain ⟨j0, j1, j2, j3⟩ := i10
  refine ⟨1, h9, h10, ?_, by rw [f9.2 0 (lo (by decide)), kp (by decide) (by decide)]; exact K.c0, go_is G9, ?_, N, ns, sg, np, P, (fun q => if q = i then some (k, N, ns, sg) else im q), g', ?_, ?_⟩
  · show f_X5_image h 1 _ = _
    rw [e8]
    unfold f_X5_image_34
    rw [go_fR C8 (k := 5) (x := 30) rfl]
    simp only [Option.bind_some]
    rw [hq9]
    simp only [Option.bind_some]
    rw [go_fR C8 (k := 0) (x := 2) rfl]
    simp only [Option.bind_some]
    rw [if_pos (bk_rd B8).1, e9]
    rfl
  · show f_X6_image h9 31 _ = _
    unfold f_X6_image
    rw [n2]
    simp only [Option.bind_some]
    rw [if_neg i1_ne0]
    exact e10
  · refine ⟨?_, by rw [all (by decide) (by decide) (by decide)]; exact K.c0, K.cls.keep (all (by decide) (by decide) (by decide)), ab (by decide) K.bok, K.iv, K.sgl, K.pad.keep (all (by decide) (by decide) (by decide)), K.pds.keep (all (by decide) (by decide) (by decide)), K.hP, K.npl, K.off.keep (all (by decide) (by decide) (by decide)), K.wor.keep (all (by decide) (by decide) (by decide)), ⟨f, ?_, fun q hq => ?_⟩, K.mbk.keep (all (by decide) (by decide) (by decide)), K.msg.keep (all (by decide) (by decide) (by decide)), K.mpd.keep (all (by decide) (by decide) (by decide)), A10, ⟨f', ef', fun q hq => ?_⟩, ?_, ?_⟩
    · rw [l10, l8]
      rcases (show i = 0 ∨ i = 1 by omega) with rfl | rfl <;> simp
    · rw [f10.2 30 (by decide), f9.2 30 (lo (by decide))]; exact ef
    · dsimp only
      rw [hf q hq]
      by_cases z : q = i
      · rw [if_pos z, if_pos z]; rfl
      · rw [if_neg z, if_neg z]
    · dsimp only
      rw [hf' q, hfk q hq]
      by_cases z : q = i
      · simp [z]
      · simp [z]
    · intro q hq k' N' ns' sg' ee
      dsimp only at ee
      by_cases z : q = i
      · rw [if_pos z] at ee
        cases ee
        subst z
        exact ⟨hk, by rw [l10]; exact hk2, B10, K.iv, K.sgl, j0, j1, j2⟩
      · rw [if_neg z] at ee
        obtain ⟨v1, v2, v3⟩ := o8 q hq z k' N' ns' sg' ee
        obtain ⟨w1, w2, w3, w4, w5, w6, w7, w8⟩ := K.ims q hq k' N' ns' sg' ee
        refine ⟨w1, by rw [l10]; exact v1, (v2.fr f9 ?_).fr f10 ?_, w4, w5, fun j hj => ?_, fun j hj => ?_, ?_⟩
        · intro j hj y
          simp only [bkl, List.mem_cons, List.not_mem_nil, or_false] at hj y
          omega
        · intro j hj y
          simp only [bkl, List.mem_cons, List.not_mem_nil, or_false] at hj y
          omega
        · rw [j3 _ (by omega)]; exact w6 j hj
        · rw [j3 _ (by omega)]; exact w7 j hj
        · rw [j3 _ (by omega)]; exact w8
    · intro p q hp hq
      dsimp only at hp hq
      rcases (show i = 0 ∨ i = 1 by omega) with rfl | rfl
      · rw [if_pos rfl] at hp
        rw [if_neg (by decide)] at hq
        cases hp
        obtain ⟨k', N', ns', sg'⟩ := q
        exact ((o8 1 (by decide) (by decide) k' N' ns' sg' hq).2.2).symm
      · rw [if_neg (by decide)] at hp
        rw [if_pos rfl] at hq
        cases hq
        obtain ⟨k', N', ns', sg'⟩ := p
        exact (o8 0 (by decide) (by decide) k' N' ns' sg' hp).2.2
  · exact ⟨⟨_, _, _, _, _, S1.keep (all (by decide) (by decide) (by decide))⟩, ⟨_, _, _, ab (by decide) S2⟩, ⟨_, S3.keep (all (by decide) (by decide) (by decide))⟩, ⟨_, by rw [all (by decide) (by decide) (by decide)]; exact S4⟩, ⟨_, S5.keep (all (by decide) (by decide) (by decide))⟩, ⟨_, _, _, _, _, _, G.keep (all (by decide) (by decide) (by decide))⟩, ⟨_, S7.keep (all (by decide) (by decide) (by decide))⟩, ⟨_, S8.keep (all (by decide) (by decide) (by decide))⟩, ⟨_, S9.keep (all (by decide) (by decide) (by decide))⟩⟩
end IMAGE
