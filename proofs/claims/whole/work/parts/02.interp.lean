/-! THE SMALL INTERPRETER: methods as tables of instructions with their operands resolved; the heap a list of cells, a reference is a place in it (place 0 is the script) -/
abbrev gi_H : Type := List va_E
abbrev gi_Lv : Type := List (Option Value)
/-- an instruction with what it means here: a, b numbers (a target, a place of the locals, a class and a field, a method and how many it takes ..), v a value (a constant, a kind) -/
abbrev gi_I : Type := Instr × Nat × Nat × Value
abbrev gi_R : Type := Nat × gi_I
/-- own class, bytes, name, places of locals, answer, rank, table -/
abbrev gi_M : Type := String × ByteArray × MethodName × Nat × Option FieldType × Nat × List gi_R
abbrev gi_own (M : gi_M) : String := M.1
abbrev gi_code (M : gi_M) : ByteArray := M.2.1
abbrev gi_name (M : gi_M) : MethodName := M.2.2.1
abbrev gi_maxL (M : gi_M) : Nat := M.2.2.2.1
abbrev gi_ret (M : gi_M) : Option FieldType := M.2.2.2.2.1
abbrev gi_rk (M : gi_M) : Nat := M.2.2.2.2.2.1
abbrev gi_tab (M : gi_M) : List gi_R := M.2.2.2.2.2.2
def gi_look : List gi_R → Nat → Option gi_I
  | [], _ => none
  | r :: t, pc => match Nat.beq r.1 pc with
    | true => some r.2
    | false => gi_look t pc
def gi_ld : gi_Lv → Nat → Option Value
  | [], _ => none
  | o :: _, 0 => o
  | _ :: t, n + 1 => gi_ld t n
def gi_cl : Option Value → Option Value
  | some (.long _) => none
  | some (.double _) => none
  | o => o
/-- a value of one word is put -/
def gi_s1 : gi_Lv → Nat → Value → Option gi_Lv
  | [], _, _ => none
  | _ :: t, 0, v => some (some v :: t)
  | o :: t, 1, v => match t with
    | [] => none
    | _ :: t' => some (gi_cl o :: some v :: t')
  | o :: t, n + 2, v => match gi_s1 t (n + 1) v with
    | none => none
    | some t' => some (o :: t')
/-- a value of two words is put -/
def gi_s2 : gi_Lv → Nat → Value → Option gi_Lv
  | [], _, _ => none
  | _ :: t, 0, v => match t with
    | [] => none
    | _ :: t' => some (some v :: none :: t')
  | o :: t, 1, v => match t with
    | _ :: _ :: t' => some (gi_cl o :: some v :: none :: t')
    | _ => none
  | o :: t, n + 2, v => match gi_s2 t (n + 1) v with
    | none => none
    | some t' => some (o :: t')
def gi_fg (h : gi_H) (o ci k : Nat) : Option Value := match h[o]? with
  | some (.inr (c, fs)) => if c = ci then fs[k]? else none
  | _ => none
def gi_fp (h : gi_H) (o ci k : Nat) (v : Value) : Option gi_H := match h[o]? with
  | some (.inr (c, fs)) => if c = ci ∧ k < fs.length then some (h.set o (.inr (c, fs.set k v))) else none
  | _ => none
def gi_is (h : gi_H) (o ci : Nat) : Bool := match h[o]? with
  | some (.inr (c, _)) => Nat.beq c ci
  | _ => false
def gi_ai (h : gi_H) (o t : Nat) (i : Int32) : Option Int32 := match h[o]? with
  | some (.inl (t', n, .inl f)) => if t' = t ∧ ¬ (i < 0 ∨ n ≤ i.toNatClampNeg) then some (f i.toNatClampNeg) else none
  | _ => none
def gi_pi (h : gi_H) (o t : Nat) (i x : Int32) : Option gi_H := match h[o]? with
  | some (.inl (t', n, .inl f)) => if t' = t ∧ ¬ (i < 0 ∨ n ≤ i.toNatClampNeg) then some (h.set o (.inl (t', n, .inl (upd f i.toNatClampNeg x)))) else none
  | _ => none
def gi_al (h : gi_H) (o : Nat) (i : Int32) : Option Int64 := match h[o]? with
  | some (.inl (t', n, .inr (.inl f))) => if t' = 1 ∧ ¬ (i < 0 ∨ n ≤ i.toNatClampNeg) then some (f i.toNatClampNeg) else none
  | _ => none
def gi_pl (h : gi_H) (o : Nat) (i : Int32) (x : Int64) : Option gi_H := match h[o]? with
  | some (.inl (t', n, .inr (.inl f))) => if t' = 1 ∧ ¬ (i < 0 ∨ n ≤ i.toNatClampNeg) then some (h.set o (.inl (t', n, .inr (.inl (vp_updL f i.toNatClampNeg x))))) else none
  | _ => none
def gi_aq (h : gi_H) (o : Nat) (i : Int32) : Option (Option Nat) := match h[o]? with
  | some (.inl (t', n, .inr (.inr (.inr (.inr f))))) => if t' = 3 ∧ ¬ (i < 0 ∨ n ≤ i.toNatClampNeg) then some (f i.toNatClampNeg) else none
  | _ => none
/-- the value stored is an object of class ci -/
def gi_pq (h : gi_H) (o : Nat) (i : Int32) (x ci : Nat) : Option gi_H := match h[o]? with
  | some (.inl (t', n, .inr (.inr (.inr (.inr f))))) => if t' = 3 ∧ ¬ (i < 0 ∨ n ≤ i.toNatClampNeg) ∧ gi_is h x ci = true then some (h.set o (.inl (t', n, .inr (.inr (.inr (.inr (va_up f i.toNatClampNeg (some x)))))))) else none
  | _ => none
def gi_an (h : gi_H) (o t : Nat) : Option Nat := match h[o]? with
  | some (.inl (t', n, .inl _)) => if t' = t then some n else none
  | _ => none
def gi_cp (h : gi_H) (a : Nat) (sp : Int32) (d : Nat) (dp n : Int32) : Option gi_H := match h[a]?, h[d]? with
  | some (.inl (t0, n0, .inl f)), some (.inl (t1, n1, .inl g)) => if t0 = 0 ∧ t1 = 0 ∧ ¬ sp < 0 ∧ ¬ dp < 0 ∧ ¬ n < 0 ∧ sp.toNatClampNeg + n.toNatClampNeg ≤ n0 ∧ dp.toNatClampNeg + n.toNatClampNeg ≤ n1 then some (h.set d (.inl (t1, n1, .inl (va_cpy f g sp.toNatClampNeg dp.toNatClampNeg n.toNatClampNeg)))) else none
  | _, _ => none
def gi_na (t n : Nat) : va_E := match t with
  | 0 => .inl (0, n, .inl (fun _ => 0))
  | 1 => .inl (1, n, .inr (.inl (fun _ => 0)))
  | 2 => .inl (2, n, .inl (fun _ => 0))
  | _ => .inl (3, n, .inr (.inr (.inr (.inr (fun _ => none)))))
/-- a field of this kind may hold this value: .int an int, .long a long, .null a reference, .float a boolean -/
def gi_kd : Value → Value → Bool
  | .int _, .int _ => true
  | .long _, .long _ => true
  | .null, .ref _ => true
  | .float _, .int x => decide (x = 0 ∨ x = 1)
  | _, _ => false
def gi_tg (pc : Nat) (off : Int) : Option Nat := match (pc : Int) + off with
  | .ofNat k => some k
  | .negSucc _ => none
abbrev gi_S : Type := Nat × gi_Lv × List Value × gi_H
abbrev gi_O : Type := gi_S ⊕ (Option Value ⊕ (Nat × List Value × List Value))
abbrev gi_k (pc : Nat) (lv : gi_Lv) (st : List Value) (h : gi_H) : Option gi_O := some (.inl (pc, lv, st, h))
def gi_rok : Option FieldType → Int32 → Bool
  | some .int, _ => true
  | some .boolean, x => decide (x = 0 ∨ x = 1)
  | _, _ => false
def gi_kl (pc : Nat) (o : Option gi_Lv) (st : List Value) (h : gi_H) : Option gi_O := match o with
  | none => none
  | some lv => gi_k pc lv st h
def gi_kh (pc : Nat) (lv : gi_Lv) (st : List Value) (o : Option gi_H) : Option gi_O := match o with
  | none => none
  | some h => gi_k pc lv st h
def gi_kp (o : Option Nat) (lv : gi_Lv) (st : List Value) (h : gi_H) : Option gi_O := match o with
  | none => none
  | some pc => gi_k pc lv st h
/-- n values are taken off, the topmost last -/
def gi_tk : Nat → List Value → List Value → Option (List Value × List Value)
  | 0, acc, st => some (acc, st)
  | n + 1, acc, v :: st => gi_tk n (v :: acc) st
  | _ + 1, _, [] => none
def gi_cat : List Value → Nat
  | [] => 0
  | v :: t => v.category + gi_cat t
def gi_call (j b : Nat) (st : List Value) : Option gi_O := match gi_tk b [] st with
  | none => none
  | some (as, rest) => if gi_cat rest ≤ 8 then some (.inr (.inr (j, as, rest))) else none
def gi_hd : List Value → Option Nat
  | .ref o :: _ => some o
  | _ => none
def gi_callV (j b ci : Nat) (st : List Value) (h : gi_H) : Option gi_O := match gi_tk b [] st with
  | none => none
  | some (as, rest) => match gi_hd as with
    | none => none
    | some o => match gi_is h o ci with
      | true => if gi_cat rest ≤ 8 then some (.inr (.inr (j, as, rest))) else none
      | false => none
/-- one instruction; df: a new object's fields by its class -/
def gi_go (df : Nat → List Value) (ret : Option FieldType) (r : gi_I) (pc : Nat) (lv : gi_Lv) (st : List Value) (h : gi_H) : Option gi_O :=
  match r with
  | (ins, a, b, v) => match ins with
    | .iconst _ => gi_k (pc + 1) lv (v :: st) h
    | .lconst _ => gi_k (pc + 1) lv (v :: st) h
    | .bipush _ => gi_k (pc + 2) lv (v :: st) h
    | .sipush _ => gi_k (pc + 3) lv (v :: st) h
    | .ldc _ => gi_k (pc + 2) lv (v :: st) h
    | .ldc_w _ => gi_k (pc + 3) lv (v :: st) h
    | .ldc2_w _ => gi_k (pc + 3) lv (v :: st) h
    | .iload_n _ => match gi_ld lv a with
      | some (.int x) => gi_k (pc + 1) lv (.int x :: st) h
      | _ => none
    | .iload _ => match gi_ld lv a with
      | some (.int x) => gi_k (pc + 2) lv (.int x :: st) h
      | _ => none
    | .lload_n _ => match gi_ld lv a with
      | some (.long x) => gi_k (pc + 1) lv (.long x :: st) h
      | _ => none
    | .lload _ => match gi_ld lv a with
      | some (.long x) => gi_k (pc + 2) lv (.long x :: st) h
      | _ => none
    | .aload_n _ => match gi_ld lv a with
      | some (.ref x) => gi_k (pc + 1) lv (.ref x :: st) h
      | some .null => gi_k (pc + 1) lv (.null :: st) h
      | _ => none
    | .istore_n _ => match st with
      | .int x :: st' => gi_kl (pc + 1) (gi_s1 lv a (.int x)) st' h
      | _ => none
    | .istore _ => match st with
      | .int x :: st' => gi_kl (pc + 2) (gi_s1 lv a (.int x)) st' h
      | _ => none
    | .lstore_n _ => match st with
      | .long x :: st' => gi_kl (pc + 1) (gi_s2 lv a (.long x)) st' h
      | _ => none
    | .lstore _ => match st with
      | .long x :: st' => gi_kl (pc + 2) (gi_s2 lv a (.long x)) st' h
      | _ => none
    | .astore_n _ => match st with
      | .ref x :: st' => gi_kl (pc + 1) (gi_s1 lv a (.ref x)) st' h
      | .null :: st' => gi_kl (pc + 1) (gi_s1 lv a .null) st' h
      | _ => none
    | .iinc _ _ => match gi_ld lv a, v with
      | some (.int x), .int c => gi_kl (pc + 3) (gi_s1 lv a (.int (x + c))) st h
      | _, _ => none
    | .iadd => match st with
      | .int y :: .int x :: st' => gi_k (pc + 1) lv (.int (x + y) :: st') h
      | _ => none
    | .isub => match st with
      | .int y :: .int x :: st' => gi_k (pc + 1) lv (.int (x - y) :: st') h
      | _ => none
    | .imul => match st with
      | .int y :: .int x :: st' => gi_k (pc + 1) lv (.int (x * y) :: st') h
      | _ => none
    | .idiv => match st with
      | .int y :: .int x :: st' => if y = 0 then none else gi_k (pc + 1) lv (.int (x / y) :: st') h
      | _ => none
    | .irem => match st with
      | .int y :: .int x :: st' => if y = 0 then none else gi_k (pc + 1) lv (.int (x - x / y * y) :: st') h
      | _ => none
    | .ineg => match st with
      | .int x :: st' => gi_k (pc + 1) lv (.int (-x) :: st') h
      | _ => none
    | .iand => match st with
      | .int y :: .int x :: st' => gi_k (pc + 1) lv (.int (x &&& y) :: st') h
      | _ => none
    | .ior => match st with
      | .int y :: .int x :: st' => gi_k (pc + 1) lv (.int (x ||| y) :: st') h
      | _ => none
    | .ixor => match st with
      | .int y :: .int x :: st' => gi_k (pc + 1) lv (.int (x ^^^ y) :: st') h
      | _ => none
    | .ishl => match st with
      | .int y :: .int x :: st' => gi_k (pc + 1) lv (.int (x <<< (y &&& 31)) :: st') h
      | _ => none
    | .ishr => match st with
      | .int y :: .int x :: st' => gi_k (pc + 1) lv (.int (x >>> (y &&& 31)) :: st') h
      | _ => none
    | .iushr => match st with
      | .int y :: .int x :: st' => gi_k (pc + 1) lv (.int ((x.toUInt32 >>> (y.toUInt32 &&& Int32.toUInt32 31)).toInt32) :: st') h
      | _ => none
    | .ladd => match st with
      | .long y :: .long x :: st' => gi_k (pc + 1) lv (.long (x + y) :: st') h
      | _ => none
    | .lsub => match st with
      | .long y :: .long x :: st' => gi_k (pc + 1) lv (.long (x - y) :: st') h
      | _ => none
    | .lmul => match st with
      | .long y :: .long x :: st' => gi_k (pc + 1) lv (.long (x * y) :: st') h
      | _ => none
    | .ldiv => match st with
      | .long y :: .long x :: st' => if y = 0 then none else gi_k (pc + 1) lv (.long (x / y) :: st') h
      | _ => none
    | .lrem => match st with
      | .long y :: .long x :: st' => if y = 0 then none else gi_k (pc + 1) lv (.long (x - x / y * y) :: st') h
      | _ => none
    | .lneg => match st with
      | .long x :: st' => gi_k (pc + 1) lv (.long (-x) :: st') h
      | _ => none
    | .land => match st with
      | .long y :: .long x :: st' => gi_k (pc + 1) lv (.long (x &&& y) :: st') h
      | _ => none
    | .lor => match st with
      | .long y :: .long x :: st' => gi_k (pc + 1) lv (.long (x ||| y) :: st') h
      | _ => none
    | .lshl => match st with
      | .int y :: .long x :: st' => gi_k (pc + 1) lv (.long (x <<< (y.toInt64 &&& 63)) :: st') h
      | _ => none
    | .lshr => match st with
      | .int y :: .long x :: st' => gi_k (pc + 1) lv (.long (x >>> (y.toInt64 &&& 63)) :: st') h
      | _ => none
    | .lushr => match st with
      | .int y :: .long x :: st' => gi_k (pc + 1) lv (.long ((x.toUInt64 >>> (y.toInt64.toUInt64 &&& Int64.toUInt64 63)).toInt64) :: st') h
      | _ => none
    | .lcmp => match st with
      | .long y :: .long x :: st' => gi_k (pc + 1) lv (.int (lg_cmp x y) :: st') h
      | _ => none
    | .i2l => match st with
      | .int x :: st' => gi_k (pc + 1) lv (.long x.toInt64 :: st') h
      | _ => none
    | .l2i => match st with
      | .long x :: st' => gi_k (pc + 1) lv (.int x.toInt32 :: st') h
      | _ => none
    | .dup => match st with
      | .int x :: st' => gi_k (pc + 1) lv (.int x :: .int x :: st') h
      | .ref x :: st' => gi_k (pc + 1) lv (.ref x :: .ref x :: st') h
      | _ => none
    | .dup2 => match st with
      | .int y :: .ref x :: st' => gi_k (pc + 1) lv (.int y :: .ref x :: .int y :: .ref x :: st') h
      | _ => none
    | .pop => match st with
      | .int _ :: st' => gi_k (pc + 1) lv st' h
      | _ => none
    | .goto _ => gi_k a lv st h
    | .ifCond .eq _ => match st with
      | .int x :: st' => if x = 0 then gi_k a lv st' h else gi_k (pc + 3) lv st' h
      | _ => none
    | .ifCond .ne _ => match st with
      | .int x :: st' => if x = 0 then gi_k (pc + 3) lv st' h else gi_k a lv st' h
      | _ => none
    | .ifCond .lt _ => match st with
      | .int x :: st' => if x < 0 then gi_k a lv st' h else gi_k (pc + 3) lv st' h
      | _ => none
    | .ifCond .ge _ => match st with
      | .int x :: st' => if 0 ≤ x then gi_k a lv st' h else gi_k (pc + 3) lv st' h
      | _ => none
    | .ifCond .gt _ => match st with
      | .int x :: st' => if 0 < x then gi_k a lv st' h else gi_k (pc + 3) lv st' h
      | _ => none
    | .ifCond .le _ => match st with
      | .int x :: st' => if x ≤ 0 then gi_k a lv st' h else gi_k (pc + 3) lv st' h
      | _ => none
    | .if_icmp .eq _ => match st with
      | .int y :: .int x :: st' => if x = y then gi_k a lv st' h else gi_k (pc + 3) lv st' h
      | _ => none
    | .if_icmp .ne _ => match st with
      | .int y :: .int x :: st' => if x = y then gi_k (pc + 3) lv st' h else gi_k a lv st' h
      | _ => none
    | .if_icmp .lt _ => match st with
      | .int y :: .int x :: st' => if x < y then gi_k a lv st' h else gi_k (pc + 3) lv st' h
      | _ => none
    | .if_icmp .ge _ => match st with
      | .int y :: .int x :: st' => if y ≤ x then gi_k a lv st' h else gi_k (pc + 3) lv st' h
      | _ => none
    | .if_icmp .gt _ => match st with
      | .int y :: .int x :: st' => if y < x then gi_k a lv st' h else gi_k (pc + 3) lv st' h
      | _ => none
    | .if_icmp .le _ => match st with
      | .int y :: .int x :: st' => if x ≤ y then gi_k a lv st' h else gi_k (pc + 3) lv st' h
      | _ => none
    | .ifnonnull _ => match st with
      | .ref _ :: st' => gi_k a lv st' h
      | .null :: st' => gi_k (pc + 3) lv st' h
      | _ => none
    | .tableswitch dflt lo hi offs => match st with
      | .int x :: st' => if x.toInt < lo ∨ hi < x.toInt then gi_kp (gi_tg pc dflt) lv st' h else match offs[(x.toInt - lo).toNat]? with
        | none => none
        | some off => gi_kp (gi_tg pc off) lv st' h
      | _ => none
    | .lookupswitch dflt ps => match st with
      | .int x :: st' => gi_kp (gi_tg pc (Op.lookupswitch.offset ps.toList dflt x.toInt)) lv st' h
      | _ => none
    | .getfield _ => match st with
      | .ref o :: st' => match gi_fg h o a b with
        | none => none
        | some w => gi_k (pc + 3) lv (w :: st') h
      | _ => none
    | .putfield _ => match st with
      | w :: .ref o :: st' => match gi_kd v w with
        | true => gi_kh (pc + 3) lv st' (gi_fp h o a b w)
        | false => none
      | _ => none
    | .iaload => match st with
      | .int i :: .ref o :: st' => match gi_ai h o a i with
        | none => none
        | some x => gi_k (pc + 1) lv (.int x :: st') h
      | _ => none
    | .baload => match st with
      | .int i :: .ref o :: st' => match gi_ai h o 2 i with
        | none => none
        | some x => gi_k (pc + 1) lv (.int x :: st') h
      | _ => none
    | .laload => match st with
      | .int i :: .ref o :: st' => match gi_al h o i with
        | none => none
        | some x => gi_k (pc + 1) lv (.long x :: st') h
      | _ => none
    | .aaload => match st with
      | .int i :: .ref o :: st' => match gi_aq h o i with
        | none => none
        | some none => gi_k (pc + 1) lv (.null :: st') h
        | some (some x) => gi_k (pc + 1) lv (.ref x :: st') h
      | _ => none
    | .iastore => match st with
      | .int x :: .int i :: .ref o :: st' => gi_kh (pc + 1) lv st' (gi_pi h o 0 i x)
      | _ => none
    | .bastore => match st with
      | .int x :: .int i :: .ref o :: st' => if x = 0 ∨ x = 1 then gi_kh (pc + 1) lv st' (gi_pi h o 2 i x) else none
      | _ => none
    | .lastore => match st with
      | .long x :: .int i :: .ref o :: st' => gi_kh (pc + 1) lv st' (gi_pl h o i x)
      | _ => none
    | .aastore => match st with
      | .ref x :: .int i :: .ref o :: st' => gi_kh (pc + 1) lv st' (gi_pq h o i x a)
      | _ => none
    | .arraylength => match st with
      | .ref o :: st' => match gi_an h o a with
        | none => none
        | some n => gi_k (pc + 1) lv (.int (Int32.ofNat n) :: st') h
      | _ => none
    | .newarray _ => match st with
      | .int n :: st' => if ¬ n < 0 ∧ n.toNatClampNeg ≤ 1000 then gi_k (pc + 2) lv (.ref h.length :: st') (h ++ [gi_na a n.toNatClampNeg]) else none
      | _ => none
    | .anewarray _ => match st with
      | .int n :: st' => if ¬ n < 0 ∧ n.toNatClampNeg ≤ 1000 then gi_k (pc + 3) lv (.ref h.length :: st') (h ++ [gi_na 3 n.toNatClampNeg]) else none
      | _ => none
    | .new _ => gi_k (pc + 3) lv (.ref h.length :: st) (h ++ [.inr (a, df a)])
    | .ireturn => match st with
      | [.int x] => match gi_rok ret x with
        | true => some (.inr (.inl (some (.int x))))
        | false => none
      | _ => none
    | .lreturn => match ret, st with
      | some .long, [.long x] => some (.inr (.inl (some (.long x))))
      | _, _ => none
    | .return_ => match ret, st with
      | none, [] => some (.inr (.inl none))
      | _, _ => none
    | .invokestatic _ => match Nat.beq a 999 with
      | true => match st with
        | [.int n, .int dp, .ref d, .int sp, .ref s] => gi_kh (pc + 3) lv [] (gi_cp h s sp d dp n)
        | _ => none
      | false => gi_call a b st
    | .invokevirtual _ => match v with
      | .ref ci => gi_callV a b ci st h
      | _ => none
    | .invokespecial _ => match Nat.beq a 998 with
      | true => match st with
        | [.ref _] => gi_k (pc + 3) lv [] h
        | _ => none
      | false => match gi_tk b [] st with
        | none => none
        | some (as, _) => match gi_hd as with
          | none => none
          | some _ => gi_call a b st
    | _ => none
/-- a callee's first locals -/
def gi_en0 : List Value → gi_Lv
  | [] => []
  | .long x :: t => some (.long x) :: none :: gi_en0 t
  | .double x :: t => some (.double x) :: none :: gi_en0 t
  | v :: t => some v :: gi_en0 t
def gi_pad : Nat → gi_Lv → gi_Lv
  | 0, _ => []
  | n + 1, [] => none :: gi_pad n []
  | n + 1, o :: t => o :: gi_pad n t
def gi_en (n : Nat) (as : List Value) : gi_Lv := gi_pad n (gi_en0 as)
/-- so many instructions at most -/
def gi_ex (pr : Nat → gi_M) (df : Nat → List Value) : Nat → gi_M → Nat → gi_Lv → List Value → gi_H → Option (Option Value × gi_H)
  | 0, _, _, _, _, _ => none
  | n + 1, M, pc, lv, st, h => match gi_look (gi_tab M) pc with
    | none => none
    | some r => match gi_go df (gi_ret M) r pc lv st h with
      | none => none
      | some (.inl (pc', lv', st', h')) => gi_ex pr df n M pc' lv' st' h'
      | some (.inr (.inl rv)) => some (rv, h)
      | some (.inr (.inr (j, as, rest))) => match Nat.ble (gi_en0 as).length (gi_maxL (pr j)) with
        | false => none
        | true => match gi_ex pr df n (pr j) 0 (gi_en (gi_maxL (pr j)) as) [] h with
          | none => none
          | some (w, h') => gi_ex pr df n M (pc + 3) lv (w.toList ++ rest) h'
