-- ===== PART A: goes FIRST, ahead of the names: the tables' words, and 'selects' of the private methods out of them =====
/-- a private method of a class that the tables say can be made, by its rows of tables_1 -/
def lw_okq (q : MethodName × Nat) : Prop := (q.1.cls ≠ "java/lang/invoke/MethodHandle" ∧ q.1.cls ≠ "java/lang/invoke/VarHandle") ∧ Cond.instantiable q.1.cls q.2 ∈ tables_1 ∧ Cond.privateMethod q.1 ∈ tables_1 ∧ Cond.instanceMethod q.1 ∈ tables_1
theorem lw_p0 : lw_okq (⟨"AdmiralGuinea$Course", "tryAct", "(LAdmiralGuinea$Pad;I)I"⟩, 6) := ⟨⟨by decide +kernel, by decide +kernel⟩, List.mem_of_getElem? (i := 96) (by decide +kernel), List.mem_of_getElem? (i := 286) (by decide +kernel), List.mem_of_getElem? (i := 287) (by decide +kernel)⟩
theorem lw_p1 : lw_okq (⟨"AdmiralGuinea$Book", "strike", "(I)V"⟩, 15) := ⟨⟨by decide +kernel, by decide +kernel⟩, List.mem_of_getElem? (i := 21) (by decide +kernel), List.mem_of_getElem? (i := 299) (by decide +kernel), List.mem_of_getElem? (i := 300) (by decide +kernel)⟩
theorem lw_p2 : lw_okq (⟨"AdmiralGuinea$Course", "tryFate", "(II)I"⟩, 6) := ⟨⟨by decide +kernel, by decide +kernel⟩, List.mem_of_getElem? (i := 96) (by decide +kernel), List.mem_of_getElem? (i := 305) (by decide +kernel), List.mem_of_getElem? (i := 306) (by decide +kernel)⟩
theorem lw_p3 : lw_okq (⟨"AdmiralGuinea$Book", "receive", "(II)V"⟩, 15) := ⟨⟨by decide +kernel, by decide +kernel⟩, List.mem_of_getElem? (i := 21) (by decide +kernel), List.mem_of_getElem? (i := 330) (by decide +kernel), List.mem_of_getElem? (i := 331) (by decide +kernel)⟩
theorem lw_p4 : lw_okq (⟨"AdmiralGuinea$Book", "enter", "(IIII)V"⟩, 15) := ⟨⟨by decide +kernel, by decide +kernel⟩, List.mem_of_getElem? (i := 21) (by decide +kernel), List.mem_of_getElem? (i := 350) (by decide +kernel), List.mem_of_getElem? (i := 351) (by decide +kernel)⟩
theorem lw_p5 : lw_okq (⟨"AdmiralGuinea$Offers", "costOf", "(I)I"⟩, 2) := ⟨⟨by decide +kernel, by decide +kernel⟩, List.mem_of_getElem? (i := 144) (by decide +kernel), List.mem_of_getElem? (i := 438) (by decide +kernel), List.mem_of_getElem? (i := 439) (by decide +kernel)⟩
theorem lw_p6 : lw_okq (⟨"AdmiralGuineaModel", "faultOf", "()I"⟩, 16) := ⟨⟨by decide +kernel, by decide +kernel⟩, List.mem_of_getElem? (i := 597) (by decide +kernel), List.mem_of_getElem? (i := 696) (by decide +kernel), List.mem_of_getElem? (i := 697) (by decide +kernel)⟩
theorem lw_p7 : lw_okq (⟨"AdmiralGuineaModel", "goMonths", "()I"⟩, 16) := ⟨⟨by decide +kernel, by decide +kernel⟩, List.mem_of_getElem? (i := 597) (by decide +kernel), List.mem_of_getElem? (i := 710) (by decide +kernel), List.mem_of_getElem? (i := 711) (by decide +kernel)⟩
theorem lw_p8 : lw_okq (⟨"AdmiralGuineaModel", "asNow", "()V"⟩, 16) := ⟨⟨by decide +kernel, by decide +kernel⟩, List.mem_of_getElem? (i := 597) (by decide +kernel), List.mem_of_getElem? (i := 714) (by decide +kernel), List.mem_of_getElem? (i := 715) (by decide +kernel)⟩
theorem lw_p9 : lw_okq (⟨"AdmiralGuineaModel", "month", "()I"⟩, 16) := ⟨⟨by decide +kernel, by decide +kernel⟩, List.mem_of_getElem? (i := 597) (by decide +kernel), List.mem_of_getElem? (i := 718) (by decide +kernel), List.mem_of_getElem? (i := 719) (by decide +kernel)⟩
theorem lw_p10 : lw_okq (⟨"AdmiralGuineaModel", "gone", "(I)V"⟩, 16) := ⟨⟨by decide +kernel, by decide +kernel⟩, List.mem_of_getElem? (i := 597) (by decide +kernel), List.mem_of_getElem? (i := 722) (by decide +kernel), List.mem_of_getElem? (i := 723) (by decide +kernel)⟩
theorem lw_p11 : lw_okq (⟨"AdmiralGuineaModel", "life", "(II)I"⟩, 16) := ⟨⟨by decide +kernel, by decide +kernel⟩, List.mem_of_getElem? (i := 597) (by decide +kernel), List.mem_of_getElem? (i := 726) (by decide +kernel), List.mem_of_getElem? (i := 727) (by decide +kernel)⟩
theorem lw_p12 : lw_okq (⟨"AdmiralGuineaModel", "end", "(I)V"⟩, 16) := ⟨⟨by decide +kernel, by decide +kernel⟩, List.mem_of_getElem? (i := 597) (by decide +kernel), List.mem_of_getElem? (i := 730) (by decide +kernel), List.mem_of_getElem? (i := 731) (by decide +kernel)⟩
theorem lw_p13 : lw_okq (⟨"AdmiralGuineaModel", "lifeOf", "(I)I"⟩, 16) := ⟨⟨by decide +kernel, by decide +kernel⟩, List.mem_of_getElem? (i := 597) (by decide +kernel), List.mem_of_getElem? (i := 734) (by decide +kernel), List.mem_of_getElem? (i := 735) (by decide +kernel)⟩
theorem lw_p14 : lw_okq (⟨"AdmiralGuineaModel", "sumOf", "(I)I"⟩, 16) := ⟨⟨by decide +kernel, by decide +kernel⟩, List.mem_of_getElem? (i := 597) (by decide +kernel), List.mem_of_getElem? (i := 738) (by decide +kernel), List.mem_of_getElem? (i := 739) (by decide +kernel)⟩
theorem lw_p15 : lw_okq (⟨"AdmiralGuineaModel", "holder", "(I)I"⟩, 16) := ⟨⟨by decide +kernel, by decide +kernel⟩, List.mem_of_getElem? (i := 597) (by decide +kernel), List.mem_of_getElem? (i := 742) (by decide +kernel), List.mem_of_getElem? (i := 743) (by decide +kernel)⟩
def lw_privs_1 : List (MethodName × Nat) := [(⟨"AdmiralGuinea$Course", "tryAct", "(LAdmiralGuinea$Pad;I)I"⟩, 6), (⟨"AdmiralGuinea$Book", "strike", "(I)V"⟩, 15), (⟨"AdmiralGuinea$Course", "tryFate", "(II)I"⟩, 6), (⟨"AdmiralGuinea$Book", "receive", "(II)V"⟩, 15), (⟨"AdmiralGuinea$Book", "enter", "(IIII)V"⟩, 15), (⟨"AdmiralGuinea$Offers", "costOf", "(I)I"⟩, 2), (⟨"AdmiralGuineaModel", "faultOf", "()I"⟩, 16), (⟨"AdmiralGuineaModel", "goMonths", "()I"⟩, 16), (⟨"AdmiralGuineaModel", "asNow", "()V"⟩, 16), (⟨"AdmiralGuineaModel", "month", "()I"⟩, 16), (⟨"AdmiralGuineaModel", "gone", "(I)V"⟩, 16), (⟨"AdmiralGuineaModel", "life", "(II)I"⟩, 16), (⟨"AdmiralGuineaModel", "end", "(I)V"⟩, 16), (⟨"AdmiralGuineaModel", "lifeOf", "(I)I"⟩, 16), (⟨"AdmiralGuineaModel", "sumOf", "(I)I"⟩, 16), (⟨"AdmiralGuineaModel", "holder", "(I)I"⟩, 16)]
theorem lw_r1 : ∀ q ∈ lw_privs_1, lw_okq q := List.forall_mem_cons.mpr ⟨lw_p0, List.forall_mem_cons.mpr ⟨lw_p1, List.forall_mem_cons.mpr ⟨lw_p2, List.forall_mem_cons.mpr ⟨lw_p3, List.forall_mem_cons.mpr ⟨lw_p4, List.forall_mem_cons.mpr ⟨lw_p5, List.forall_mem_cons.mpr ⟨lw_p6, List.forall_mem_cons.mpr ⟨lw_p7, List.forall_mem_cons.mpr ⟨lw_p8, List.forall_mem_cons.mpr ⟨lw_p9, List.forall_mem_cons.mpr ⟨lw_p10, List.forall_mem_cons.mpr ⟨lw_p11, List.forall_mem_cons.mpr ⟨lw_p12, List.forall_mem_cons.mpr ⟨lw_p13, List.forall_mem_cons.mpr ⟨lw_p14, List.forall_mem_cons.mpr ⟨lw_p15, fun _ h => absurd h List.not_mem_nil⟩⟩⟩⟩⟩⟩⟩⟩⟩⟩⟩⟩⟩⟩⟩⟩
theorem lw_p16 : lw_okq (⟨"AdmiralGuineaModel", "gets", "(II)V"⟩, 16) := ⟨⟨by decide +kernel, by decide +kernel⟩, List.mem_of_getElem? (i := 597) (by decide +kernel), List.mem_of_getElem? (i := 746) (by decide +kernel), List.mem_of_getElem? (i := 747) (by decide +kernel)⟩
theorem lw_p17 : lw_okq (⟨"AdmiralGuineaModel", "buy", "(IIII)I"⟩, 16) := ⟨⟨by decide +kernel, by decide +kernel⟩, List.mem_of_getElem? (i := 597) (by decide +kernel), List.mem_of_getElem? (i := 750) (by decide +kernel), List.mem_of_getElem? (i := 751) (by decide +kernel)⟩
theorem lw_p18 : lw_okq (⟨"AdmiralGuineaModel", "passes", "(III)I"⟩, 16) := ⟨⟨by decide +kernel, by decide +kernel⟩, List.mem_of_getElem? (i := 597) (by decide +kernel), List.mem_of_getElem? (i := 761) (by decide +kernel), List.mem_of_getElem? (i := 762) (by decide +kernel)⟩
theorem lw_p19 : lw_okq (⟨"AdmiralGuineaModel", "barOfMonths", "()I"⟩, 16) := ⟨⟨by decide +kernel, by decide +kernel⟩, List.mem_of_getElem? (i := 597) (by decide +kernel), List.mem_of_getElem? (i := 769) (by decide +kernel), List.mem_of_getElem? (i := 770) (by decide +kernel)⟩
theorem lw_p20 : lw_okq (⟨"AdmiralGuineaModel", "isPolicy", "(I)Z"⟩, 16) := ⟨⟨by decide +kernel, by decide +kernel⟩, List.mem_of_getElem? (i := 597) (by decide +kernel), List.mem_of_getElem? (i := 781) (by decide +kernel), List.mem_of_getElem? (i := 782) (by decide +kernel)⟩
theorem lw_p21 : lw_okq (⟨"AdmiralGuineaModel", "gainsBy", "(IIII)I"⟩, 16) := ⟨⟨by decide +kernel, by decide +kernel⟩, List.mem_of_getElem? (i := 597) (by decide +kernel), List.mem_of_getElem? (i := 803) (by decide +kernel), List.mem_of_getElem? (i := 804) (by decide +kernel)⟩
theorem lw_p22 : lw_okq (⟨"AdmiralGuineaModel", "bestSet", "(IIII)I"⟩, 16) := ⟨⟨by decide +kernel, by decide +kernel⟩, List.mem_of_getElem? (i := 597) (by decide +kernel), List.mem_of_getElem? (i := 819) (by decide +kernel), List.mem_of_getElem? (i := 820) (by decide +kernel)⟩
theorem lw_p23 : lw_okq (⟨"AdmiralGuineaModel", "allOn", "(I)I"⟩, 16) := ⟨⟨by decide +kernel, by decide +kernel⟩, List.mem_of_getElem? (i := 597) (by decide +kernel), List.mem_of_getElem? (i := 838) (by decide +kernel), List.mem_of_getElem? (i := 839) (by decide +kernel)⟩
theorem lw_p24 : lw_okq (⟨"AdmiralGuineaModel", "isWorld", "(I)Z"⟩, 16) := ⟨⟨by decide +kernel, by decide +kernel⟩, List.mem_of_getElem? (i := 597) (by decide +kernel), List.mem_of_getElem? (i := 862) (by decide +kernel), List.mem_of_getElem? (i := 863) (by decide +kernel)⟩
theorem lw_p25 : lw_okq (⟨"AdmiralGuineaModel", "gainsIn", "(III)I"⟩, 16) := ⟨⟨by decide +kernel, by decide +kernel⟩, List.mem_of_getElem? (i := 597) (by decide +kernel), List.mem_of_getElem? (i := 866) (by decide +kernel), List.mem_of_getElem? (i := 867) (by decide +kernel)⟩
def lw_privs_2 : List (MethodName × Nat) := [(⟨"AdmiralGuineaModel", "gets", "(II)V"⟩, 16), (⟨"AdmiralGuineaModel", "buy", "(IIII)I"⟩, 16), (⟨"AdmiralGuineaModel", "passes", "(III)I"⟩, 16), (⟨"AdmiralGuineaModel", "barOfMonths", "()I"⟩, 16), (⟨"AdmiralGuineaModel", "isPolicy", "(I)Z"⟩, 16), (⟨"AdmiralGuineaModel", "gainsBy", "(IIII)I"⟩, 16), (⟨"AdmiralGuineaModel", "bestSet", "(IIII)I"⟩, 16), (⟨"AdmiralGuineaModel", "allOn", "(I)I"⟩, 16), (⟨"AdmiralGuineaModel", "isWorld", "(I)Z"⟩, 16), (⟨"AdmiralGuineaModel", "gainsIn", "(III)I"⟩, 16)]
theorem lw_r2 : ∀ q ∈ lw_privs_2, lw_okq q := List.forall_mem_cons.mpr ⟨lw_p16, List.forall_mem_cons.mpr ⟨lw_p17, List.forall_mem_cons.mpr ⟨lw_p18, List.forall_mem_cons.mpr ⟨lw_p19, List.forall_mem_cons.mpr ⟨lw_p20, List.forall_mem_cons.mpr ⟨lw_p21, List.forall_mem_cons.mpr ⟨lw_p22, List.forall_mem_cons.mpr ⟨lw_p23, List.forall_mem_cons.mpr ⟨lw_p24, List.forall_mem_cons.mpr ⟨lw_p25, fun _ h => absurd h List.not_mem_nil⟩⟩⟩⟩⟩⟩⟩⟩⟩⟩
def lw_privs : List (MethodName × Nat) := lw_privs_1 ++ (lw_privs_2)
def lw_tbl : List Cond := k2_sels lw_privs ++ tables_1
theorem lw_privs_ok : ∀ q ∈ lw_privs, lw_okq q := by
  show ∀ q ∈ lw_privs_1 ++ (lw_privs_2), lw_okq q
  exact List.forall_mem_append.mpr ⟨lw_r1, lw_r2⟩

def RX0 : String := "AdmiralGuinea$Book"
def TX0 : u_T := fun k => match k with
  | 0 => ("AdmiralGuinea$Book", "month", "I", false)
  | 1 => ("AdmiralGuinea$Book", "funds", "I", false)
  | 2 => ("AdmiralGuinea$Book", "ended", "I", false)
  | 3 => ("AdmiralGuinea$Book", "given", "I", false)
  | 4 => ("AdmiralGuinea$Book", "standing", "I", false)
  | 5 => ("AdmiralGuinea$Book", "sights", "I", false)
  | 6 => ("AdmiralGuinea$Book", "odds", "[I", true)
  | 7 => ("AdmiralGuinea$Book", "cash", "[I", true)
  | 8 => ("AdmiralGuinea$Book", "holder", "[I", true)
  | 9 => ("AdmiralGuinea$Book", "life", "[I", true)
  | 10 => ("AdmiralGuinea$Book", "sum", "[I", true)
  | 11 => ("AdmiralGuinea$Book", "till", "[I", true)
  | 12 => ("AdmiralGuinea$Book", "sightBuyer", "[I", true)
  | 13 => ("AdmiralGuinea$Book", "sightLife", "[I", true)
  | _ => ("AdmiralGuinea$Book", "sightGains", "[I", true)
def tyX0 : Nat → FieldType := fun k => match k with
  | 0 => .int
  | 1 => .int
  | 2 => .int
  | 3 => .int
  | 4 => .int
  | 5 => .int
  | 6 => .array .int
  | 7 => .array .int
  | 8 => .array .int
  | 9 => .array .int
  | 10 => .array .int
  | 11 => .array .int
  | 12 => .array .int
  | 13 => .array .int
  | _ => .array .int
abbrev wsX00 : List Cond := u_ws RX0 TX0 15
theorem nmX0 : ∀ a, a < 15 → ∀ b, b < 15 → a ≠ b → (TX0 a).2.1 ≠ (TX0 b).2.1 := by decide +kernel
theorem tyX0_ok : ∀ k, k < 15 → parseFieldDescriptor (TX0 k).2.2.1 = some (tyX0 k) := by decide +kernel
abbrev cX0_init : ByteArray := prog_2_method_1_code
def yX0_init : MethodName := ⟨RX0, "<init>", "()V"⟩
abbrev cX0_copyFrom : ByteArray := prog_2_method_2_code
def yX0_copyFrom : MethodName := ⟨RX0, "copyFrom", "(LAdmiralGuinea$Book;)V"⟩
abbrev cX0_hasEnded : ByteArray := prog_2_method_3_code
def yX0_hasEnded : MethodName := ⟨RX0, "hasEnded", "(I)Z"⟩
abbrev cX0_livesLeft : ByteArray := prog_2_method_4_code
def yX0_livesLeft : MethodName := ⟨RX0, "livesLeft", "()I"⟩
abbrev cX0_stands : ByteArray := prog_2_method_5_code
def yX0_stands : MethodName := ⟨RX0, "stands", "(I)Z"⟩
abbrev cX0_allCash : ByteArray := prog_2_method_6_code
def yX0_allCash : MethodName := ⟨RX0, "allCash", "()I"⟩
abbrev cX0_buyPolicy : ByteArray := prog_2_method_7_code
def yX0_buyPolicy : MethodName := ⟨RX0, "buyPolicy", "(IIII)I"⟩
abbrev cX0_passOn : ByteArray := prog_2_method_8_code
def yX0_passOn : MethodName := ⟨RX0, "passOn", "(III)I"⟩
abbrev cX0_walk : ByteArray := prog_2_method_9_code
def yX0_walk : MethodName := ⟨RX0, "walk", "(I)I"⟩
abbrev cX0_rumour : ByteArray := prog_2_method_10_code
def yX0_rumour : MethodName := ⟨RX0, "rumour", "(I)I"⟩
abbrev cX0_endLife : ByteArray := prog_2_method_11_code
def yX0_endLife : MethodName := ⟨RX0, "endLife", "(I)I"⟩
abbrev cX0_turnMonth : ByteArray := prog_2_method_12_code
def yX0_turnMonth : MethodName := ⟨RX0, "turnMonth", "()I"⟩
abbrev cX0_enter : ByteArray := prog_2_method_13_code
def yX0_enter : MethodName := ⟨RX0, "enter", "(IIII)V"⟩
abbrev cX0_strike : ByteArray := prog_2_method_14_code
def yX0_strike : MethodName := ⟨RX0, "strike", "(I)V"⟩
abbrev cX0_receive : ByteArray := prog_2_method_15_code
def yX0_receive : MethodName := ⟨RX0, "receive", "(II)V"⟩
abbrev cX0_groupOf : ByteArray := prog_2_method_16_code
def yX0_groupOf : MethodName := ⟨RX0, "groupOf", "(II)I"⟩
abbrev cX0_sumOf : ByteArray := prog_2_method_17_code
def yX0_sumOf : MethodName := ⟨RX0, "sumOf", "(I)I"⟩
abbrev cX0_gainsOf : ByteArray := prog_2_method_18_code
def yX0_gainsOf : MethodName := ⟨RX0, "gainsOf", "(II)I"⟩
abbrev cX0_owedFor : ByteArray := prog_2_method_19_code
def yX0_owedFor : MethodName := ⟨RX0, "owedFor", "(I)I"⟩
abbrev cX0_fewestVoid : ByteArray := prog_2_method_20_code
def yX0_fewestVoid : MethodName := ⟨RX0, "fewestVoid", "(II)I"⟩
abbrev cX0_endingsOf : ByteArray := prog_2_method_21_code
def yX0_endingsOf : MethodName := ⟨RX0, "endingsOf", "(II)J"⟩
abbrev cX0_waysOf : ByteArray := prog_2_method_22_code
def yX0_waysOf : MethodName := ⟨RX0, "waysOf", "(II)J"⟩
abbrev cX0_meanOwed : ByteArray := prog_2_method_23_code
def yX0_meanOwed : MethodName := ⟨RX0, "meanOwed", "(I)J"⟩
abbrev cX0_note : ByteArray := prog_2_method_24_code
def yX0_note : MethodName := ⟨RX0, "note", "(III)Z"⟩
def RX1 : String := "AdmiralGuinea$Course"
def TX1 : u_T := fun k => match k with
  | 0 => ("AdmiralGuinea$Course", "book", "LAdmiralGuinea$Book;", true)
  | 1 => ("AdmiralGuinea$Course", "acts", "I", false)
  | 2 => ("AdmiralGuinea$Course", "badAct", "I", false)
  | 3 => ("AdmiralGuinea$Course", "why", "I", false)
  | 4 => ("AdmiralGuinea$Course", "paid", "I", false)
  | _ => ("AdmiralGuinea$Course", "firstShort", "I", false)
def tyX1 : Nat → FieldType := fun k => match k with
  | 0 => .object "AdmiralGuinea$Book"
  | 1 => .int
  | 2 => .int
  | 3 => .int
  | 4 => .int
  | _ => .int
abbrev wsX10 : List Cond := u_ws RX1 TX1 6
theorem nmX1 : ∀ a, a < 6 → ∀ b, b < 6 → a ≠ b → (TX1 a).2.1 ≠ (TX1 b).2.1 := by decide +kernel
theorem tyX1_ok : ∀ k, k < 6 → parseFieldDescriptor (TX1 k).2.2.1 = some (tyX1 k) := by decide +kernel
abbrev cX1_init : ByteArray := prog_3_method_1_code
def yX1_init : MethodName := ⟨RX1, "<init>", "()V"⟩
abbrev cX1_readPad : ByteArray := prog_3_method_2_code
def yX1_readPad : MethodName := ⟨RX1, "readPad", "(LAdmiralGuinea$Book;LAdmiralGuinea$Pad;)Z"⟩
abbrev cX1_tryAct : ByteArray := prog_3_method_3_code
def yX1_tryAct : MethodName := ⟨RX1, "tryAct", "(LAdmiralGuinea$Pad;I)I"⟩
abbrev cX1_tryFate : ByteArray := prog_3_method_4_code
def yX1_tryFate : MethodName := ⟨RX1, "tryFate", "(II)I"⟩
abbrev cX1_drawMonths : ByteArray := prog_3_method_5_code
def yX1_drawMonths : MethodName := ⟨RX1, "drawMonths", "(LAdmiralGuinea$Book;II)V"⟩
def RX2 : String := "AdmiralGuinea$Offers"
def TX2 : u_T := fun k => match k with
  | 0 => ("AdmiralGuinea$Offers", "cost", "[I", true)
  | _ => ("AdmiralGuinea$Offers", "surplus", "[J", true)
def tyX2 : Nat → FieldType := fun k => match k with
  | 0 => .array .int
  | _ => .array .long
abbrev wsX20 : List Cond := u_ws RX2 TX2 2
theorem nmX2 : ∀ a, a < 2 → ∀ b, b < 2 → a ≠ b → (TX2 a).2.1 ≠ (TX2 b).2.1 := by decide +kernel
theorem tyX2_ok : ∀ k, k < 2 → parseFieldDescriptor (TX2 k).2.2.1 = some (tyX2 k) := by decide +kernel
abbrev cX2_init : ByteArray := prog_4_method_1_code
def yX2_init : MethodName := ⟨RX2, "<init>", "()V"⟩
abbrev cX2_lay : ByteArray := prog_4_method_2_code
def yX2_lay : MethodName := ⟨RX2, "lay", "(LAdmiralGuinea$Book;III)V"⟩
abbrev cX2_bestSet : ByteArray := prog_4_method_3_code
def yX2_bestSet : MethodName := ⟨RX2, "bestSet", "(I)I"⟩
abbrev cX2_costOf : ByteArray := prog_4_method_4_code
def yX2_costOf : MethodName := ⟨RX2, "costOf", "(I)I"⟩
abbrev cX2_surplusOf : ByteArray := prog_4_method_5_code
def yX2_surplusOf : MethodName := ⟨RX2, "surplusOf", "(I)J"⟩
def RX3 : String := "AdmiralGuinea$Pad"
def TX3 : u_T := fun k => match k with
  | 0 => ("AdmiralGuinea$Pad", "count", "I", false)
  | _ => ("AdmiralGuinea$Pad", "signs", "[I", true)
def tyX3 : Nat → FieldType := fun k => match k with
  | 0 => .int
  | _ => .array .int
abbrev wsX30 : List Cond := u_ws RX3 TX3 2
theorem nmX3 : ∀ a, a < 2 → ∀ b, b < 2 → a ≠ b → (TX3 a).2.1 ≠ (TX3 b).2.1 := by decide +kernel
theorem tyX3_ok : ∀ k, k < 2 → parseFieldDescriptor (TX3 k).2.2.1 = some (tyX3 k) := by decide +kernel
abbrev cX3_init : ByteArray := prog_5_method_1_code
def yX3_init : MethodName := ⟨RX3, "<init>", "()V"⟩
abbrev cX3_write : ByteArray := prog_5_method_2_code
def yX3_write : MethodName := ⟨RX3, "write", "(I)Z"⟩
abbrev cX3_signAt : ByteArray := prog_5_method_3_code
def yX3_signAt : MethodName := ⟨RX3, "signAt", "(I)I"⟩
abbrev cX3_firstFault : ByteArray := prog_5_method_4_code
def yX3_firstFault : MethodName := ⟨RX3, "firstFault", "()I"⟩
abbrev cX3_stepBehind : ByteArray := prog_5_method_5_code
def yX3_stepBehind : MethodName := ⟨RX3, "stepBehind", "(II)I"⟩
abbrev cX3_stepOfFirst : ByteArray := prog_5_method_6_code
def yX3_stepOfFirst : MethodName := ⟨RX3, "stepOfFirst", "(I)I"⟩
abbrev cX3_stepOfSecond : ByteArray := prog_5_method_7_code
def yX3_stepOfSecond : MethodName := ⟨RX3, "stepOfSecond", "(I)I"⟩
abbrev cX3_lifeOf : ByteArray := prog_5_method_8_code
def yX3_lifeOf : MethodName := ⟨RX3, "lifeOf", "(I)I"⟩
abbrev cX3_buyerOf : ByteArray := prog_5_method_9_code
def yX3_buyerOf : MethodName := ⟨RX3, "buyerOf", "(I)I"⟩
def RX4 : String := "AdmiralGuinea$Worlds"
def TX4 : u_T := fun k => match k with
  | _ => ("AdmiralGuinea$Worlds", "tally", "[I", true)
def tyX4 : Nat → FieldType := fun k => match k with
  | _ => .array .int
abbrev wsX40 : List Cond := u_ws RX4 TX4 1
theorem nmX4 : ∀ a, a < 1 → ∀ b, b < 1 → a ≠ b → (TX4 a).2.1 ≠ (TX4 b).2.1 := by decide +kernel
theorem tyX4_ok : ∀ k, k < 1 → parseFieldDescriptor (TX4 k).2.2.1 = some (tyX4 k) := by decide +kernel
abbrev cX4_init : ByteArray := prog_6_method_1_code
def yX4_init : MethodName := ⟨RX4, "<init>", "()V"⟩
abbrev cX4_policyOf : ByteArray := prog_6_method_2_code
def yX4_policyOf : MethodName := ⟨RX4, "policyOf", "(I)I"⟩
abbrev cX4_holderIn : ByteArray := prog_6_method_3_code
def yX4_holderIn : MethodName := ⟨RX4, "holderIn", "(I)I"⟩
abbrev cX4_fitting : ByteArray := prog_6_method_4_code
def yX4_fitting : MethodName := ⟨RX4, "fitting", "(LAdmiralGuinea$Book;)J"⟩
abbrev cX4_everyWorld : ByteArray := prog_6_method_5_code
def yX4_everyWorld : MethodName := ⟨RX4, "everyWorld", "(LAdmiralGuinea$Book;)J"⟩
abbrev cX4_worldsThatSay : ByteArray := prog_6_method_6_code
def yX4_worldsThatSay : MethodName := ⟨RX4, "worldsThatSay", "(LAdmiralGuinea$Book;JI)J"⟩
abbrev cX4_moreIn : ByteArray := prog_6_method_7_code
def yX4_moreIn : MethodName := ⟨RX4, "moreIn", "(LAdmiralGuinea$Book;III)I"⟩
abbrev cX4_movedIn : ByteArray := prog_6_method_8_code
def yX4_movedIn : MethodName := ⟨RX4, "movedIn", "(J)I"⟩
abbrev cX4_mostLeft : ByteArray := prog_6_method_9_code
def yX4_mostLeft : MethodName := ⟨RX4, "mostLeft", "(LAdmiralGuinea$Book;JII)I"⟩
def RX5 : String := "AdmiralGuinea"
def TX5 : u_T := fun k => match k with
  | 0 => ("AdmiralGuinea", "book", "LAdmiralGuinea$Book;", true)
  | 1 => ("AdmiralGuinea", "course", "LAdmiralGuinea$Course;", true)
  | 2 => ("AdmiralGuinea", "pad", "LAdmiralGuinea$Pad;", true)
  | 3 => ("AdmiralGuinea", "offered", "LAdmiralGuinea$Offers;", true)
  | 4 => ("AdmiralGuinea", "worlds", "LAdmiralGuinea$Worlds;", true)
  | _ => ("AdmiralGuinea", "images", "[LAdmiralGuinea$Book;", true)
def tyX5 : Nat → FieldType := fun k => match k with
  | 0 => .object "AdmiralGuinea$Book"
  | 1 => .object "AdmiralGuinea$Course"
  | 2 => .object "AdmiralGuinea$Pad"
  | 3 => .object "AdmiralGuinea$Offers"
  | 4 => .object "AdmiralGuinea$Worlds"
  | _ => .array (.object "AdmiralGuinea$Book")
abbrev wsX50 : List Cond := u_ws RX5 TX5 6
theorem nmX5 : ∀ a, a < 6 → ∀ b, b < 6 → a ≠ b → (TX5 a).2.1 ≠ (TX5 b).2.1 := by decide +kernel
theorem tyX5_ok : ∀ k, k < 6 → parseFieldDescriptor (TX5 k).2.2.1 = some (tyX5 k) := by decide +kernel
abbrev cX5_init : ByteArray := prog_1_method_1_code
def yX5_init : MethodName := ⟨RX5, "<init>", "()V"⟩
abbrev cX5_odds : ByteArray := prog_1_method_2_code
def yX5_odds : MethodName := ⟨RX5, "odds", "(II)I"⟩
abbrev cX5_heir : ByteArray := prog_1_method_3_code
def yX5_heir : MethodName := ⟨RX5, "heir", "(I)I"⟩
abbrev cX5_cash : ByteArray := prog_1_method_4_code
def yX5_cash : MethodName := ⟨RX5, "cash", "(II)I"⟩
abbrev cX5_funds : ByteArray := prog_1_method_5_code
def yX5_funds : MethodName := ⟨RX5, "funds", "(I)I"⟩
abbrev cX5_say : ByteArray := prog_1_method_6_code
def yX5_say : MethodName := ⟨RX5, "say", "(I)I"⟩
abbrev cX5_wipe : ByteArray := prog_1_method_7_code
def yX5_wipe : MethodName := ⟨RX5, "wipe", "()I"⟩
abbrev cX5_fault : ByteArray := prog_1_method_8_code
def yX5_fault : MethodName := ⟨RX5, "fault", "()I"⟩
abbrev cX5_judge : ByteArray := prog_1_method_9_code
def yX5_judge : MethodName := ⟨RX5, "judge", "(I)I"⟩
abbrev cX5_done : ByteArray := prog_1_method_10_code
def yX5_done : MethodName := ⟨RX5, "done", "()I"⟩
abbrev cX5_behind : ByteArray := prog_1_method_11_code
def yX5_behind : MethodName := ⟨RX5, "behind", "(I)I"⟩
abbrev cX5_policy : ByteArray := prog_1_method_12_code
def yX5_policy : MethodName := ⟨RX5, "policy", "(II)I"⟩
abbrev cX5_price : ByteArray := prog_1_method_13_code
def yX5_price : MethodName := ⟨RX5, "price", "(III)I"⟩
abbrev cX5_chance : ByteArray := prog_1_method_14_code
def yX5_chance : MethodName := ⟨RX5, "chance", "(III)J"⟩
abbrev cX5_gains : ByteArray := prog_1_method_15_code
def yX5_gains : MethodName := ⟨RX5, "gains", "(II)I"⟩
abbrev cX5_worth : ByteArray := prog_1_method_16_code
def yX5_worth : MethodName := ⟨RX5, "worth", "(I)I"⟩
abbrev cX5_best : ByteArray := prog_1_method_17_code
def yX5_best : MethodName := ⟨RX5, "best", "(IIIII)J"⟩
abbrev cX5_buys : ByteArray := prog_1_method_18_code
def yX5_buys : MethodName := ⟨RX5, "buys", "(IIII)I"⟩
abbrev cX5_voids : ByteArray := prog_1_method_19_code
def yX5_voids : MethodName := ⟨RX5, "voids", "(II)I"⟩
abbrev cX5_ruin : ByteArray := prog_1_method_20_code
def yX5_ruin : MethodName := ⟨RX5, "ruin", "(III)J"⟩
abbrev cX5_tells : ByteArray := prog_1_method_21_code
def yX5_tells : MethodName := ⟨RX5, "tells", "(III)I"⟩
abbrev cX5_parts : ByteArray := prog_1_method_22_code
def yX5_parts : MethodName := ⟨RX5, "parts", "()I"⟩
abbrev cX5_seen : ByteArray := prog_1_method_23_code
def yX5_seen : MethodName := ⟨RX5, "seen", "(III)I"⟩
abbrev cX5_forget : ByteArray := prog_1_method_24_code
def yX5_forget : MethodName := ⟨RX5, "forget", "()I"⟩
abbrev cX5_liars : ByteArray := prog_1_method_25_code
def yX5_liars : MethodName := ⟨RX5, "liars", "(I)I"⟩
abbrev cX5_ask : ByteArray := prog_1_method_26_code
def yX5_ask : MethodName := ⟨RX5, "ask", "(I)I"⟩
abbrev cX5_pass : ByteArray := prog_1_method_27_code
def yX5_pass : MethodName := ⟨RX5, "pass", "(I)I"⟩
abbrev cX5_bets : ByteArray := prog_1_method_28_code
def yX5_bets : MethodName := ⟨RX5, "bets", "(IIII)J"⟩
abbrev cX5_year : ByteArray := prog_1_method_29_code
def yX5_year : MethodName := ⟨RX5, "year", "(III)I"⟩
abbrev cX5_image : ByteArray := prog_1_method_30_code
def yX5_image : MethodName := ⟨RX5, "image", "(I)I"⟩
abbrev cX5_restore : ByteArray := prog_1_method_31_code
def yX5_restore : MethodName := ⟨RX5, "restore", "(I)I"⟩
abbrev cX5_told : ByteArray := prog_1_method_32_code
def yX5_told : MethodName := ⟨RX5, "told", "(I)I"⟩
abbrev cX5_isWithin : ByteArray := prog_1_method_33_code
def yX5_isWithin : MethodName := ⟨RX5, "isWithin", "(III)Z"⟩
abbrev cX5_isLife : ByteArray := prog_1_method_34_code
def yX5_isLife : MethodName := ⟨RX5, "isLife", "(I)Z"⟩
abbrev cX5_isBuyer : ByteArray := prog_1_method_35_code
def yX5_isBuyer : MethodName := ⟨RX5, "isBuyer", "(I)Z"⟩
abbrev cX5_isPart : ByteArray := prog_1_method_36_code
def yX5_isPart : MethodName := ⟨RX5, "isPart", "(I)Z"⟩
abbrev cX5_refusalOfOffers : ByteArray := prog_1_method_37_code
def yX5_refusalOfOffers : MethodName := ⟨RX5, "refusalOfOffers", "(IIII)I"⟩
abbrev cX5_areWants : ByteArray := prog_1_method_38_code
def yX5_areWants : MethodName := ⟨RX5, "areWants", "(I)Z"⟩
abbrev cX5_digitOf : ByteArray := prog_1_method_39_code
def yX5_digitOf : MethodName := ⟨RX5, "digitOf", "(III)I"⟩
abbrev cX5_power : ByteArray := prog_1_method_40_code
def yX5_power : MethodName := ⟨RX5, "power", "(JI)J"⟩
abbrev cX5_choices : ByteArray := prog_1_method_41_code
def yX5_choices : MethodName := ⟨RX5, "choices", "(II)J"⟩
abbrev cX5_endings : ByteArray := prog_1_method_42_code
def yX5_endings : MethodName := ⟨RX5, "endings", "(II)J"⟩
abbrev cX5_priceOf : ByteArray := prog_1_method_43_code
def yX5_priceOf : MethodName := ⟨RX5, "priceOf", "(III)I"⟩
abbrev cX5_tellsApart : ByteArray := prog_1_method_44_code
def yX5_tellsApart : MethodName := ⟨RX5, "tellsApart", "(II)Z"⟩
abbrev cX5_lowest : ByteArray := prog_1_method_45_code
def yX5_lowest : MethodName := ⟨RX5, "lowest", "(JJI)J"⟩
abbrev cX5_commonDivisor : ByteArray := prog_1_method_46_code
def yX5_commonDivisor : MethodName := ⟨RX5, "commonDivisor", "(JJ)J"⟩
abbrev cX5_onlyOneWho : ByteArray := prog_1_method_47_code
def yX5_onlyOneWho : MethodName := ⟨RX5, "onlyOneWho", "(II)I"⟩
def RX6 : String := "AdmiralGuineaModel"
def TX6 : u_T := fun k => match k with
  | 0 => ("AdmiralGuineaModel", "book", "[I", true)
  | 1 => ("AdmiralGuineaModel", "now", "[I", true)
  | 2 => ("AdmiralGuineaModel", "sights", "I", false)
  | 3 => ("AdmiralGuineaModel", "sight", "[I", true)
  | 4 => ("AdmiralGuineaModel", "signs", "I", false)
  | 5 => ("AdmiralGuineaModel", "pad", "[I", true)
  | 6 => ("AdmiralGuineaModel", "paid", "I", false)
  | 7 => ("AdmiralGuineaModel", "isShort", "Z", false)
  | 8 => ("AdmiralGuineaModel", "reason", "I", false)
  | 9 => ("AdmiralGuineaModel", "acts", "I", false)
  | 10 => ("AdmiralGuineaModel", "shortAt", "I", false)
  | 11 => ("AdmiralGuineaModel", "bestUp", "J", false)
  | 12 => ("AdmiralGuineaModel", "gain", "[I", true)
  | 13 => ("AdmiralGuineaModel", "want", "[I", true)
  | 14 => ("AdmiralGuineaModel", "image", "[I", true)
  | _ => ("AdmiralGuineaModel", "isKept", "[Z", true)
def tyX6 : Nat → FieldType := fun k => match k with
  | 0 => .array .int
  | 1 => .array .int
  | 2 => .int
  | 3 => .array .int
  | 4 => .int
  | 5 => .array .int
  | 6 => .int
  | 7 => .boolean
  | 8 => .int
  | 9 => .int
  | 10 => .int
  | 11 => .long
  | 12 => .array .int
  | 13 => .array .int
  | 14 => .array .int
  | _ => .array .boolean
abbrev wsX60 : List Cond := u_ws RX6 TX6 16
theorem nmX6 : ∀ a, a < 16 → ∀ b, b < 16 → a ≠ b → (TX6 a).2.1 ≠ (TX6 b).2.1 := by decide +kernel
theorem tyX6_ok : ∀ k, k < 16 → parseFieldDescriptor (TX6 k).2.2.1 = some (tyX6 k) := by decide +kernel
abbrev cX6_init : ByteArray := prog_8_method_1_code
def yX6_init : MethodName := ⟨RX6, "<init>", "()V"⟩
abbrev cX6_in : ByteArray := prog_8_method_2_code
def yX6_in : MethodName := ⟨RX6, "in", "(III)Z"⟩
abbrev cX6_has : ByteArray := prog_8_method_3_code
def yX6_has : MethodName := ⟨RX6, "has", "(II)Z"⟩
abbrev cX6_bits : ByteArray := prog_8_method_4_code
def yX6_bits : MethodName := ⟨RX6, "bits", "(I)I"⟩
abbrev cX6_isLife : ByteArray := prog_8_method_5_code
def yX6_isLife : MethodName := ⟨RX6, "isLife", "(I)Z"⟩
abbrev cX6_isBuyer : ByteArray := prog_8_method_6_code
def yX6_isBuyer : MethodName := ⟨RX6, "isBuyer", "(I)Z"⟩
abbrev cX6_odds : ByteArray := prog_8_method_7_code
def yX6_odds : MethodName := ⟨RX6, "odds", "(II)I"⟩
abbrev cX6_heir : ByteArray := prog_8_method_8_code
def yX6_heir : MethodName := ⟨RX6, "heir", "(I)I"⟩
abbrev cX6_cash : ByteArray := prog_8_method_9_code
def yX6_cash : MethodName := ⟨RX6, "cash", "(II)I"⟩
abbrev cX6_funds : ByteArray := prog_8_method_10_code
def yX6_funds : MethodName := ⟨RX6, "funds", "(I)I"⟩
abbrev cX6_say : ByteArray := prog_8_method_11_code
def yX6_say : MethodName := ⟨RX6, "say", "(I)I"⟩
abbrev cX6_wipe : ByteArray := prog_8_method_12_code
def yX6_wipe : MethodName := ⟨RX6, "wipe", "()I"⟩
abbrev cX6_isLifeSign : ByteArray := prog_8_method_13_code
def yX6_isLifeSign : MethodName := ⟨RX6, "isLifeSign", "(I)Z"⟩
abbrev cX6_isBuyerSign : ByteArray := prog_8_method_14_code
def yX6_isBuyerSign : MethodName := ⟨RX6, "isBuyerSign", "(I)Z"⟩
abbrev cX6_faultOf : ByteArray := prog_8_method_15_code
def yX6_faultOf : MethodName := ⟨RX6, "faultOf", "()I"⟩
abbrev cX6_fault : ByteArray := prog_8_method_16_code
def yX6_fault : MethodName := ⟨RX6, "fault", "()I"⟩
abbrev cX6_asNow : ByteArray := prog_8_method_17_code
def yX6_asNow : MethodName := ⟨RX6, "asNow", "()V"⟩
abbrev cX6_power : ByteArray := prog_8_method_18_code
def yX6_power : MethodName := ⟨RX6, "power", "(JI)J"⟩
abbrev cX6_priceOf : ByteArray := prog_8_method_19_code
def yX6_priceOf : MethodName := ⟨RX6, "priceOf", "(III)I"⟩
abbrev cX6_holder : ByteArray := prog_8_method_20_code
def yX6_holder : MethodName := ⟨RX6, "holder", "(I)I"⟩
abbrev cX6_lifeOf : ByteArray := prog_8_method_21_code
def yX6_lifeOf : MethodName := ⟨RX6, "lifeOf", "(I)I"⟩
abbrev cX6_sumOf : ByteArray := prog_8_method_22_code
def yX6_sumOf : MethodName := ⟨RX6, "sumOf", "(I)I"⟩
abbrev cX6_gone : ByteArray := prog_8_method_23_code
def yX6_gone : MethodName := ⟨RX6, "gone", "(I)V"⟩
abbrev cX6_buy : ByteArray := prog_8_method_24_code
def yX6_buy : MethodName := ⟨RX6, "buy", "(IIII)I"⟩
abbrev cX6_gets : ByteArray := prog_8_method_25_code
def yX6_gets : MethodName := ⟨RX6, "gets", "(II)V"⟩
abbrev cX6_passes : ByteArray := prog_8_method_26_code
def yX6_passes : MethodName := ⟨RX6, "passes", "(III)I"⟩
abbrev cX6_end : ByteArray := prog_8_method_27_code
def yX6_end : MethodName := ⟨RX6, "end", "(I)V"⟩
abbrev cX6_life : ByteArray := prog_8_method_28_code
def yX6_life : MethodName := ⟨RX6, "life", "(II)I"⟩
abbrev cX6_month : ByteArray := prog_8_method_29_code
def yX6_month : MethodName := ⟨RX6, "month", "()I"⟩
abbrev cX6_goMonths : ByteArray := prog_8_method_30_code
def yX6_goMonths : MethodName := ⟨RX6, "goMonths", "()I"⟩
abbrev cX6_judge : ByteArray := prog_8_method_31_code
def yX6_judge : MethodName := ⟨RX6, "judge", "(I)I"⟩
abbrev cX6_barOfMonths : ByteArray := prog_8_method_32_code
def yX6_barOfMonths : MethodName := ⟨RX6, "barOfMonths", "()I"⟩
abbrev cX6_done : ByteArray := prog_8_method_33_code
def yX6_done : MethodName := ⟨RX6, "done", "()I"⟩
abbrev cX6_behind : ByteArray := prog_8_method_34_code
def yX6_behind : MethodName := ⟨RX6, "behind", "(I)I"⟩
abbrev cX6_isPolicy : ByteArray := prog_8_method_35_code
def yX6_isPolicy : MethodName := ⟨RX6, "isPolicy", "(I)Z"⟩
abbrev cX6_policy : ByteArray := prog_8_method_36_code
def yX6_policy : MethodName := ⟨RX6, "policy", "(II)I"⟩
abbrev cX6_price : ByteArray := prog_8_method_37_code
def yX6_price : MethodName := ⟨RX6, "price", "(III)I"⟩
abbrev cX6_part : ByteArray := prog_8_method_38_code
def yX6_part : MethodName := ⟨RX6, "part", "(JJI)J"⟩
abbrev cX6_chance : ByteArray := prog_8_method_39_code
def yX6_chance : MethodName := ⟨RX6, "chance", "(III)J"⟩
abbrev cX6_gainsBy : ByteArray := prog_8_method_40_code
def yX6_gainsBy : MethodName := ⟨RX6, "gainsBy", "(IIII)I"⟩
abbrev cX6_gains : ByteArray := prog_8_method_41_code
def yX6_gains : MethodName := ⟨RX6, "gains", "(II)I"⟩
abbrev cX6_worth : ByteArray := prog_8_method_42_code
def yX6_worth : MethodName := ⟨RX6, "worth", "(I)I"⟩
abbrev cX6_digit : ByteArray := prog_8_method_43_code
def yX6_digit : MethodName := ⟨RX6, "digit", "(II)I"⟩
abbrev cX6_areOffers : ByteArray := prog_8_method_44_code
def yX6_areOffers : MethodName := ⟨RX6, "areOffers", "(III)Z"⟩
abbrev cX6_bestSet : ByteArray := prog_8_method_45_code
def yX6_bestSet : MethodName := ⟨RX6, "bestSet", "(IIII)I"⟩
abbrev cX6_best : ByteArray := prog_8_method_46_code
def yX6_best : MethodName := ⟨RX6, "best", "(IIIII)J"⟩
abbrev cX6_buys : ByteArray := prog_8_method_47_code
def yX6_buys : MethodName := ⟨RX6, "buys", "(IIII)I"⟩
abbrev cX6_voids : ByteArray := prog_8_method_48_code
def yX6_voids : MethodName := ⟨RX6, "voids", "(II)I"⟩
abbrev cX6_allOn : ByteArray := prog_8_method_49_code
def yX6_allOn : MethodName := ⟨RX6, "allOn", "(I)I"⟩
abbrev cX6_ruin : ByteArray := prog_8_method_50_code
def yX6_ruin : MethodName := ⟨RX6, "ruin", "(III)J"⟩
abbrev cX6_tells : ByteArray := prog_8_method_51_code
def yX6_tells : MethodName := ⟨RX6, "tells", "(III)I"⟩
abbrev cX6_parts : ByteArray := prog_8_method_52_code
def yX6_parts : MethodName := ⟨RX6, "parts", "()I"⟩
abbrev cX6_seen : ByteArray := prog_8_method_53_code
def yX6_seen : MethodName := ⟨RX6, "seen", "(III)I"⟩
abbrev cX6_forget : ByteArray := prog_8_method_54_code
def yX6_forget : MethodName := ⟨RX6, "forget", "()I"⟩
abbrev cX6_gainsIn : ByteArray := prog_8_method_55_code
def yX6_gainsIn : MethodName := ⟨RX6, "gainsIn", "(III)I"⟩
abbrev cX6_isWorld : ByteArray := prog_8_method_56_code
def yX6_isWorld : MethodName := ⟨RX6, "isWorld", "(I)Z"⟩
abbrev cX6_liars : ByteArray := prog_8_method_57_code
def yX6_liars : MethodName := ⟨RX6, "liars", "(I)I"⟩
abbrev cX6_ask : ByteArray := prog_8_method_58_code
def yX6_ask : MethodName := ⟨RX6, "ask", "(I)I"⟩
abbrev cX6_pass : ByteArray := prog_8_method_59_code
def yX6_pass : MethodName := ⟨RX6, "pass", "(I)I"⟩
abbrev cX6_bets : ByteArray := prog_8_method_60_code
def yX6_bets : MethodName := ⟨RX6, "bets", "(IIII)J"⟩
abbrev cX6_year : ByteArray := prog_8_method_61_code
def yX6_year : MethodName := ⟨RX6, "year", "(III)I"⟩
abbrev cX6_image : ByteArray := prog_8_method_62_code
def yX6_image : MethodName := ⟨RX6, "image", "(I)I"⟩
abbrev cX6_restore : ByteArray := prog_8_method_63_code
def yX6_restore : MethodName := ⟨RX6, "restore", "(I)I"⟩
abbrev cX6_told : ByteArray := prog_8_method_64_code
def yX6_told : MethodName := ⟨RX6, "told", "(I)I"⟩
def RJ6 : String := "java/lang/Integer"
def TJ6 : u_T := fun k => match k with
  | _ => ("", "", "", false)
def tyJ6 : Nat → FieldType := fun k => match k with
  | _ => .int
abbrev wsJ60 : List Cond := u_ws RJ6 TJ6 0
theorem nmJ6 : ∀ a, a < 0 → ∀ b, b < 0 → a ≠ b → (TJ6 a).2.1 ≠ (TJ6 b).2.1 := by decide +kernel
theorem tyJ6_ok : ∀ k, k < 0 → parseFieldDescriptor (TJ6 k).2.2.1 = some (tyJ6 k) := by decide +kernel
abbrev cJ6_bitCount_0f7a4 : ByteArray := prog_9_method_49_code
def yJ6_bitCount_0f7a4 : MethodName := ⟨RJ6, "bitCount", "(I)I"⟩
def RJ13 : String := "java/lang/Long"
def TJ13 : u_T := fun k => match k with
  | _ => ("", "", "", false)
def tyJ13 : Nat → FieldType := fun k => match k with
  | _ => .int
abbrev wsJ130 : List Cond := u_ws RJ13 TJ13 0
theorem nmJ13 : ∀ a, a < 0 → ∀ b, b < 0 → a ≠ b → (TJ13 a).2.1 ≠ (TJ13 b).2.1 := by decide +kernel
theorem tyJ13_ok : ∀ k, k < 0 → parseFieldDescriptor (TJ13 k).2.2.1 = some (tyJ13 k) := by decide +kernel
abbrev cJ13_bitCount_95d88 : ByteArray := prog_10_method_50_code
def yJ13_bitCount_95d88 : MethodName := ⟨RJ13, "bitCount", "(J)I"⟩
def RJ9 : String := "java/lang/Math"
def TJ9 : u_T := fun k => match k with
  | _ => ("", "", "", false)
def tyJ9 : Nat → FieldType := fun k => match k with
  | _ => .int
abbrev wsJ90 : List Cond := u_ws RJ9 TJ9 0
theorem nmJ9 : ∀ a, a < 0 → ∀ b, b < 0 → a ≠ b → (TJ9 a).2.1 ≠ (TJ9 b).2.1 := by decide +kernel
theorem tyJ9_ok : ∀ k, k < 0 → parseFieldDescriptor (TJ9 k).2.2.1 = some (tyJ9 k) := by decide +kernel
abbrev cJ9_max_7cf53 : ByteArray := prog_11_method_65_code
def yJ9_max_7cf53 : MethodName := ⟨RJ9, "max", "(II)I"⟩
abbrev cJ9_min_7cf53 : ByteArray := prog_11_method_69_code
def yJ9_min_7cf53 : MethodName := ⟨RJ9, "min", "(II)I"⟩
def RJ10 : String := "java/lang/System"
def TJ10 : u_T := fun k => match k with
  | _ => ("", "", "", false)
def tyJ10 : Nat → FieldType := fun k => match k with
  | _ => .int
abbrev wsJ100 : List Cond := u_ws RJ10 TJ10 0
theorem nmJ10 : ∀ a, a < 0 → ∀ b, b < 0 → a ≠ b → (TJ10 a).2.1 ≠ (TJ10 b).2.1 := by decide +kernel
theorem tyJ10_ok : ∀ k, k < 0 → parseFieldDescriptor (TJ10 k).2.2.1 = some (tyJ10 k) := by decide +kernel
def RL : String := "AdmiralGuineaLaw"
abbrev cL_law : ByteArray := code
def yL_law : MethodName := ⟨RL, "law", "([I)Z"⟩
