section
-- ===== PART A: goes FIRST, ahead of the names: the tables' words, and 'selects' of the private methods out of them =====
/-- a private method of a class that the tables say can be made, by its rows of tables_1 -/
def lw_okq (q : MethodName × Nat) : Prop := (q.1.cls ≠ "java/lang/invoke/MethodHandle" ∧ q.1.cls ≠ "java/lang/invoke/VarHandle") ∧ Cond.instantiable q.1.cls q.2 ∈ tables_1 ∧ Cond.privateMethod q.1 ∈ tables_1 ∧ Cond.instanceMethod q.1 ∈ tables_1
theorem lw_p0 : lw_okq (⟨"AdmiralGuinea$Course", "tryAct", "(LAdmiralGuinea$Pad;I)I"⟩, 6) := ⟨⟨by decide +kernel, by decide +kernel⟩, List.mem_of_getElem? (i := 96) (by decide +kernel), List.mem_of_getElem? (i := 286) (by decide +kernel), List.mem_of_getElem? (i := 287) (by decide +kernel)⟩
theorem lw_p1 : lw_okq (⟨"AdmiralGuinea$Book", "strike", "(I)V"⟩, 15) := ⟨⟨by decide +kernel, by decide +kernel⟩, List.mem_of_getElem? (i := 21) (by decide +kernel), List.mem_of_getElem? (i := 299) (by decide +kernel), List.mem_of_getElem? (i := 300) (by decide +kernel)⟩
theorem lw_p2 : lw_okq (⟨"AdmiralGuinea$Course", "tryFate", "(II)I"⟩, 6) := ⟨⟨by decide +kernel, by decide +kernel⟩, List.mem_of_getElem? (i := 96) (by decide +kernel), List.mem_of_getElem? (i := 305) (by decide +kernel), List.mem_of_getElem? (i := 306) (by decide +kernel)⟩
theorem lw_p3 : lw_okq (⟨"AdmiralGuinea$Book", "receive", "(II)V"⟩, 15) := ⟨⟨by decide +kernel, by decide +kernel⟩, List.mem_of_getElem? (i := 21) (by decide +kernel), List.mem_of_getElem? (i := 330) (by decide +kernel), List.mem_of_getElem? (i := 331) (by decide +kernel)⟩
theorem lw_p4 : lw_okq (⟨"AdmiralGuinea$Book", "enter", "(IIII)V"⟩, 15) := ⟨⟨by decide +kernel, by decide +kernel⟩, List.mem_of_getElem? (i := 21) (by decide +kernel), List.mem_of_getElem? (i := 350) (by decide +kernel), List.mem_of_getElem? (i := 351) (by decide +kernel)⟩
theorem lw_p5 : lw_okq (⟨"AdmiralGuinea$Offers", "costOf", "(I)I"⟩, 2) := ⟨⟨by decide +kernel, by decide +kernel⟩, List.mem_of_getElem? (i := 144) (by decide +kernel), List.mem_of_getElem? (i := 438) (by decide +kernel), List.mem_of_getElem? (i := 439) (by decide +kernel)⟩
theorem lw_p6 : lw_okq (⟨"AdmiralGuineaModel", "faultOf", "()I"⟩, 16) := ⟨⟨by decide +kernel, by decide +kernel⟩, List.mem_of_getElem? (i := 597) (by decide +kernel), List.mem_of_getElem? (i := 696) (by decide +kernel), List.mem_of_getElem? (i := 697) (by decide +kernel)⟩
theorem lw_p7 : lw_okq (⟨"AdmiralGuineaModel", "goMonths", "()I"⟩, 16) := ⟨⟨by decide +kernel, by decide +kernel⟩, List.mem_of_getElem? (i := 597) (by decide +kernel), List.mem_of_getElem? (i := 710) (by decide +kernel), List.mem_of_getElem? (i := 711) (by decide +kernel)⟩
theorem lw_p8 : lw_okq (⟨"AdmiralGuineaModel", "asNow", "()V"⟩, 16) := ⟨⟨by decide +kernel, by decide +kernel⟩, List.mem_of_getElem? (i := 597) (by decide +kernel), List.mem_of_getElem? (i := 714) (by decide +kernel), List.mem_of_getElem? (i := 715) (by decide +kernel)⟩
theorem lw_p9 : lw_okq (⟨"AdmiralGuineaModel", "month", "()I"⟩, 16) := ⟨⟨by decide +kernel, by decide +kernel⟩, List.mem_of_getElem? (i := 597) (by decide +kernel), List.mem_of_getElem? (i := 718) (by decide +kernel), List.mem_of_getElem? (i := 719) (by decide +kernel)⟩
theorem lw_p10 : lw_okq (⟨"AdmiralGuineaModel", "gone", "(I)V"⟩, 16) := ⟨⟨by decide +kernel, by decide +kernel⟩, List.mem_of_getElem? (i := 597) (by decide +kernel), List.mem_of_getElem? (i := 722) (by decide +kernel), List.mem_of_getElem? (i := 723) (by decide +kernel)⟩
theorem lw_p11 : lw_okq (⟨"AdmiralGuineaModel", "life", "(II)I"⟩, 16) := ⟨⟨by decide +kernel, by decide +kernel⟩, List.mem_of_getElem? (i := 597) (by decide +kernel), List.mem_of_getElem? (i := 726) (by decide +kernel), List.mem_of_getElem? (i := 727) (by decide +kernel)⟩
theorem lw_p12 : lw_okq (⟨"AdmiralGuineaModel", "end", "(I)V"⟩, 16) := ⟨⟨by decide +kernel, by decide +kernel⟩, List.mem_of_getElem? (i := 597) (by decide +kernel), List.mem_of_getElem? (i := 730) (by decide +kernel), List.mem_of_getElem? (i := 731) (by decide +kernel)⟩
theorem lw_p13 : lw_okq (⟨"AdmiralGuineaModel", "lifeOf", "(I)I"⟩, 16) := ⟨⟨by decide +kernel, by decide +kernel⟩, List.mem_of_getElem? (i := 597) (by decide +kernel), List.mem_of_getElem? (i := 734) (by decide +kernel), List.mem_of_getElem? (i := 735) (by decide +kernel)⟩
theorem lw_p14 : lw_okq (⟨"AdmiralGuineaModel", "sumOf", "(I)I"⟩, 16) := ⟨⟨by decide +kernel, by decide +kernel⟩, List.mem_of_getElem? (i := 597) (by decide +kernel), List.mem_of_getElem? (i := 738) (by decide +kernel), List.mem_of_getElem? (i := 739) (by decide +kernel)⟩
theorem lw_p15 : lw_okq (⟨"AdmiralGuineaModel", "holder", "(I)I"⟩, 16) := ⟨⟨by decide +kernel, by decide +kernel⟩, List.mem_of_getElem? (i := 597) (by decide +kernel), List.mem_of_getElem? (i := 742) (by decide +kernel), List.mem_of_getElem? (i := 743) (by decide +kernel)⟩
def lw_privs_1 : List (MethodName × Nat) := [(⟨"AdmiralGuinea$Course", "tryAct", "(LAdmiralGuinea$Pad;I)I"⟩, 6), (⟨"AdmiralGuinea$Book", "strike", "(I)V"⟩, 15), (⟨"AdmiralGuinea$Course", "tryFate", "(II)I"⟩, 6), (⟨"AdmiralGuinea$Book", "receive", "(II)V"⟩, 15), (⟨"AdmiralGuinea$Book", "enter", "(IIII)V"⟩, 15), (⟨"AdmiralGuinea$Offers", "costOf", "(I)I"⟩, 2), (⟨"AdmiralGuineaModel", "faultOf", "()I"⟩, 16), (⟨"AdmiralGuineaModel", "goMonths", "()I"⟩, 16), (⟨"AdmiralGuineaModel", "asNow", "()V"⟩, 16), (⟨"AdmiralGuineaModel", "month", "()I"⟩, 16), (⟨"AdmiralGuineaModel", "gone", "(I)V"⟩, 16), (⟨"AdmiralGuineaModel", "life", "(II)I"⟩, 16), (⟨"AdmiralGuineaModel", "end", "(I)V"⟩, 16), (⟨"AdmiralGuineaModel", "lifeOf", "(I)I"⟩, 16), (⟨"AdmiralGuineaModel", "sumOf", "(I)I"⟩, 16), (⟨"AdmiralGuineaModel", "holder", "(I)I"⟩, 16)]
theorem lw_r1 : ∀ q ∈ lw_privs_1, lw_okq q := List.forall_mem_cons.mpr ⟨lw_p0, List.forall_mem_cons.mpr ⟨lw_p1, List.forall_mem_cons.mpr ⟨lw_p2, List.forall_mem_cons.mpr ⟨lw_p3, List.forall_mem_cons.mpr ⟨lw_p4, List.forall_mem_cons.mpr ⟨lw_p5, List.forall_mem_cons.mpr ⟨lw_p6, List.forall_mem_cons.mpr ⟨lw_p7, List.forall_mem_cons.mpr ⟨lw_p8, List.forall_mem_cons.mpr ⟨lw_p9, List.forall_mem_cons.mpr ⟨lw_p10, List.forall_mem_cons.mpr ⟨lw_p11, List.forall_mem_cons.mpr ⟨lw_p12, List.forall_mem_cons.mpr ⟨lw_p13, List.forall_mem_cons.mpr ⟨lw_p14, List.forall_mem_cons.mpr ⟨lw_p15, fun _ h => absurd h List.not_mem_nil⟩⟩⟩⟩⟩⟩⟩⟩⟩⟩⟩⟩⟩⟩⟩⟩
theorem lw_p16 : lw_okq (⟨"AdmiralGuineaModel", "gets", "(II)V"⟩, 16) := ⟨⟨by decide +kernel, by decide +kernel⟩, List.mem_of_getElem? (i := 597) (by decide +kernel), List.mem_of_getElem? (i := 746) (by decide +kernel), List.mem_of_getElem? (i := 747) (by decide +kernel)⟩
theorem lw_p17 : lw_okq (⟨"AdmiralGuineaModel", "buy", "(IIII)I"⟩, 16) := ⟨⟨by decide +kernel, by decide +kernel⟩, List.mem_of_getElem? (i := 597) (by decide +kernel), List.mem_of_getElem? (i := 750) (by decide +kernel), List.mem_of_getElem? (i := 751) (by decide +kernel)⟩
theorem lw_p18 : lw_okq (⟨"AdmiralGuineaModel", "passes", "(III)I"⟩, 16) := ⟨⟨by decide +kernel, by decide +kernel⟩, List.mem_of_getElem? (i := 597) (by decide +kernel), List.mem_of_getElem? (i := 761) (by decide +kernel), List.mem_of_getElem? (i := 762) (by decide +kernel)⟩
theorem lw_p19 : lw_okq (⟨"AdmiralGuineaModel", "barOfMonths", "()I"⟩, 16) := ⟨⟨by decide +kernel, by decide +kernel⟩, List.mem_of_getElem? (i := 597) (by decide +kernel), List.mem_of_getElem? (i := 769) (by decide +kernel), List.mem_of_getElem? (i := 770) (by decide +kernel)⟩
theorem lw_p20 : lw_okq (⟨"AdmiralGuineaModel", "isPolicy", "(I)Z"⟩, 16) := ⟨⟨by decide +kernel, by decide +kernel⟩, List.mem_of_getElem? (i := 597) (by decide +kernel), List.mem_of_getElem? (i := 781) (by decide +kernel), List.mem_of_getElem? (i := 782) (by decide +kernel)⟩
theorem lw_p21 : lw_okq (⟨"AdmiralGuineaModel", "gainsBy", "(IIII)I"⟩, 16) := ⟨⟨by decide +kernel, by decide +kernel⟩, List.mem_of_getElem? (i := 597) (by decide +kernel), List.mem_of_getElem? (i := 803) (by decide +kernel), List.mem_of_getElem? (i := 804) (by decide +kernel)⟩
theorem lw_p22 : lw_okq (⟨"AdmiralGuineaModel", "bestSet", "(IIII)I"⟩, 16) := ⟨⟨by decide +kernel, by decide +kernel⟩, List.mem_of_getElem? (i := 597) (by decide +kernel), List.mem_of_getElem? (i := 819) (by decide +kernel), List.mem_of_getElem? (i := 820) (by decide +kernel)⟩
theorem lw_p23 : lw_okq (⟨"AdmiralGuineaModel", "allOn", "(I)I"⟩, 16) := ⟨⟨by decide +kernel, by decide +kernel⟩, List.mem_of_getElem? (i := 597) (by decide +kernel), List.mem_of_getElem? (i := 838) (by decide +kernel), List.mem_of_getElem? (i := 839) (by decide +kernel)⟩
theorem lw_p24 : lw_okq (⟨"AdmiralGuineaModel", "isWorld", "(I)Z"⟩, 16) := ⟨⟨by decide +kernel, by decide +kernel⟩, List.mem_of_getElem? (i := 597) (by decide +kernel), List.mem_of_getElem? (i := 862) (by decide +kernel), List.mem_of_getElem? (i := 863) (by decide +kernel)⟩
theorem lw_p25 : lw_okq (⟨"AdmiralGuineaModel", "gainsIn", "(III)I"⟩, 16) := ⟨⟨by decide +kernel, by decide +kernel⟩, List.mem_of_getElem? (i := 597) (by decide +kernel), List.mem_of_getElem? (i := 866) (by decide +kernel), List.mem_of_getElem? (i := 867) (by decide +kernel)⟩
def lw_privs_2 : List (MethodName × Nat) := [(⟨"AdmiralGuineaModel", "gets", "(II)V"⟩, 16), (⟨"AdmiralGuineaModel", "buy", "(IIII)I"⟩, 16), (⟨"AdmiralGuineaModel", "passes", "(III)I"⟩, 16), (⟨"AdmiralGuineaModel", "barOfMonths", "()I"⟩, 16), (⟨"AdmiralGuineaModel", "isPolicy", "(I)Z"⟩, 16), (⟨"AdmiralGuineaModel", "gainsBy", "(IIII)I"⟩, 16), (⟨"AdmiralGuineaModel", "bestSet", "(IIII)I"⟩, 16), (⟨"AdmiralGuineaModel", "allOn", "(I)I"⟩, 16), (⟨"AdmiralGuineaModel", "isWorld", "(I)Z"⟩, 16), (⟨"AdmiralGuineaModel", "gainsIn", "(III)I"⟩, 16)]
theorem lw_r2 : ∀ q ∈ lw_privs_2, lw_okq q := List.forall_mem_cons.mpr ⟨lw_p16, List.forall_mem_cons.mpr ⟨lw_p17, List.forall_mem_cons.mpr ⟨lw_p18, List.forall_mem_cons.mpr ⟨lw_p19, List.forall_mem_cons.mpr ⟨lw_p20, List.forall_mem_cons.mpr ⟨lw_p21, List.forall_mem_cons.mpr ⟨lw_p22, List.forall_mem_cons.mpr ⟨lw_p23, List.forall_mem_cons.mpr ⟨lw_p24, List.forall_mem_cons.mpr ⟨lw_p25, fun _ h => absurd h List.not_mem_nil⟩⟩⟩⟩⟩⟩⟩⟩⟩⟩
def lw_privs : List (MethodName × Nat) := lw_privs_1 ++ (lw_privs_2)
def lw_tbl : List Cond := k2_sels lw_privs ++ tables_1
theorem lw_privs_ok : ∀ q ∈ lw_privs, lw_okq q := by
  show ∀ q ∈ lw_privs_1 ++ (lw_privs_2), lw_okq q
  exact List.forall_mem_append.mpr ⟨lw_r1, lw_r2⟩

def RX0 : String := "AdmiralGuinea$Book"
def TX0 : u_T := fun k => match k with
  | 0 => ("AdmiralGuinea$Book", "month", "I", false)
  | 1 => ("AdmiralGuinea$Book", "funds", "I", false)
  | 2 => ("AdmiralGuinea$Book", "ended", "I", false)
  | 3 => ("AdmiralGuinea$Book", "given", "I", false)
  | 4 => ("AdmiralGuinea$Book", "standing", "I", false)
  | 5 => ("AdmiralGuinea$Book", "sights", "I", false)
  | 6 => ("AdmiralGuinea$Book", "odds", "[I", true)
  | 7 => ("AdmiralGuinea$Book", "cash", "[I", true)
  | 8 => ("AdmiralGuinea$Book", "holder", "[I", true)
  | 9 => ("AdmiralGuinea$Book", "life", "[I", true)
  | 10 => ("AdmiralGuinea$Book", "sum", "[I", true)
  | 11 => ("AdmiralGuinea$Book", "till", "[I", true)
  | 12 => ("AdmiralGuinea$Book", "sightBuyer", "[I", true)
  | 13 => ("AdmiralGuinea$Book", "sightLife", "[I", true)
  | _ => ("AdmiralGuinea$Book", "sightGains", "[I", true)
def tyX0 : Nat → FieldType := fun k => match k with
  | 0 => .int
  | 1 => .int
  | 2 => .int
  | 3 => .int
  | 4 => .int
  | 5 => .int
  | 6 => .array .int
  | 7 => .array .int
  | 8 => .array .int
  | 9 => .array .int
  | 10 => .array .int
  | 11 => .array .int
  | 12 => .array .int
  | 13 => .array .int
  | _ => .array .int
abbrev wsX00 : List Cond := u_ws RX0 TX0 15
theorem nmX0 : ∀ a, a < 15 → ∀ b, b < 15 → a ≠ b → (TX0 a).2.1 ≠ (TX0 b).2.1 := by decide +kernel
theorem tyX0_ok : ∀ k, k < 15 → parseFieldDescriptor (TX0 k).2.2.1 = some (tyX0 k) := by decide +kernel
abbrev cX0_init : ByteArray := prog_2_method_1_code
def yX0_init : MethodName := ⟨RX0, "<init>", "()V"⟩
abbrev cX0_copyFrom : ByteArray := prog_2_method_2_code
def yX0_copyFrom : MethodName := ⟨RX0, "copyFrom", "(LAdmiralGuinea$Book;)V"⟩
abbrev cX0_hasEnded : ByteArray := prog_2_method_3_code
def yX0_hasEnded : MethodName := ⟨RX0, "hasEnded", "(I)Z"⟩
abbrev cX0_livesLeft : ByteArray := prog_2_method_4_code
def yX0_livesLeft : MethodName := ⟨RX0, "livesLeft", "()I"⟩
abbrev cX0_stands : ByteArray := prog_2_method_5_code
def yX0_stands : MethodName := ⟨RX0, "stands", "(I)Z"⟩
abbrev cX0_allCash : ByteArray := prog_2_method_6_code
def yX0_allCash : MethodName := ⟨RX0, "allCash", "()I"⟩
abbrev cX0_buyPolicy : ByteArray := prog_2_method_7_code
def yX0_buyPolicy : MethodName := ⟨RX0, "buyPolicy", "(IIII)I"⟩
abbrev cX0_passOn : ByteArray := prog_2_method_8_code
def yX0_passOn : MethodName := ⟨RX0, "passOn", "(III)I"⟩
abbrev cX0_walk : ByteArray := prog_2_method_9_code
def yX0_walk : MethodName := ⟨RX0, "walk", "(I)I"⟩
abbrev cX0_rumour : ByteArray := prog_2_method_10_code
def yX0_rumour : MethodName := ⟨RX0, "rumour", "(I)I"⟩
abbrev cX0_endLife : ByteArray := prog_2_method_11_code
def yX0_endLife : MethodName := ⟨RX0, "endLife", "(I)I"⟩
abbrev cX0_turnMonth : ByteArray := prog_2_method_12_code
def yX0_turnMonth : MethodName := ⟨RX0, "turnMonth", "()I"⟩
abbrev cX0_enter : ByteArray := prog_2_method_13_code
def yX0_enter : MethodName := ⟨RX0, "enter", "(IIII)V"⟩
abbrev cX0_strike : ByteArray := prog_2_method_14_code
def yX0_strike : MethodName := ⟨RX0, "strike", "(I)V"⟩
abbrev cX0_receive : ByteArray := prog_2_method_15_code
def yX0_receive : MethodName := ⟨RX0, "receive", "(II)V"⟩
abbrev cX0_groupOf : ByteArray := prog_2_method_16_code
def yX0_groupOf : MethodName := ⟨RX0, "groupOf", "(II)I"⟩
abbrev cX0_sumOf : ByteArray := prog_2_method_17_code
def yX0_sumOf : MethodName := ⟨RX0, "sumOf", "(I)I"⟩
abbrev cX0_gainsOf : ByteArray := prog_2_method_18_code
def yX0_gainsOf : MethodName := ⟨RX0, "gainsOf", "(II)I"⟩
abbrev cX0_owedFor : ByteArray := prog_2_method_19_code
def yX0_owedFor : MethodName := ⟨RX0, "owedFor", "(I)I"⟩
abbrev cX0_fewestVoid : ByteArray := prog_2_method_20_code
def yX0_fewestVoid : MethodName := ⟨RX0, "fewestVoid", "(II)I"⟩
abbrev cX0_endingsOf : ByteArray := prog_2_method_21_code
def yX0_endingsOf : MethodName := ⟨RX0, "endingsOf", "(II)J"⟩
abbrev cX0_waysOf : ByteArray := prog_2_method_22_code
def yX0_waysOf : MethodName := ⟨RX0, "waysOf", "(II)J"⟩
abbrev cX0_meanOwed : ByteArray := prog_2_method_23_code
def yX0_meanOwed : MethodName := ⟨RX0, "meanOwed", "(I)J"⟩
abbrev cX0_note : ByteArray := prog_2_method_24_code
def yX0_note : MethodName := ⟨RX0, "note", "(III)Z"⟩
def RX1 : String := "AdmiralGuinea$Course"
def TX1 : u_T := fun k => match k with
  | 0 => ("AdmiralGuinea$Course", "book", "LAdmiralGuinea$Book;", true)
  | 1 => ("AdmiralGuinea$Course", "acts", "I", false)
  | 2 => ("AdmiralGuinea$Course", "badAct", "I", false)
  | 3 => ("AdmiralGuinea$Course", "why", "I", false)
  | 4 => ("AdmiralGuinea$Course", "paid", "I", false)
  | _ => ("AdmiralGuinea$Course", "firstShort", "I", false)
def tyX1 : Nat → FieldType := fun k => match k with
  | 0 => .object "AdmiralGuinea$Book"
  | 1 => .int
  | 2 => .int
  | 3 => .int
  | 4 => .int
  | _ => .int
abbrev wsX10 : List Cond := u_ws RX1 TX1 6
theorem nmX1 : ∀ a, a < 6 → ∀ b, b < 6 → a ≠ b → (TX1 a).2.1 ≠ (TX1 b).2.1 := by decide +kernel
theorem tyX1_ok : ∀ k, k < 6 → parseFieldDescriptor (TX1 k).2.2.1 = some (tyX1 k) := by decide +kernel
abbrev cX1_init : ByteArray := prog_3_method_1_code
def yX1_init : MethodName := ⟨RX1, "<init>", "()V"⟩
abbrev cX1_readPad : ByteArray := prog_3_method_2_code
def yX1_readPad : MethodName := ⟨RX1, "readPad", "(LAdmiralGuinea$Book;LAdmiralGuinea$Pad;)Z"⟩
abbrev cX1_tryAct : ByteArray := prog_3_method_3_code
def yX1_tryAct : MethodName := ⟨RX1, "tryAct", "(LAdmiralGuinea$Pad;I)I"⟩
abbrev cX1_tryFate : ByteArray := prog_3_method_4_code
def yX1_tryFate : MethodName := ⟨RX1, "tryFate", "(II)I"⟩
abbrev cX1_drawMonths : ByteArray := prog_3_method_5_code
def yX1_drawMonths : MethodName := ⟨RX1, "drawMonths", "(LAdmiralGuinea$Book;II)V"⟩
def RX2 : String := "AdmiralGuinea$Offers"
def TX2 : u_T := fun k => match k with
  | 0 => ("AdmiralGuinea$Offers", "cost", "[I", true)
  | _ => ("AdmiralGuinea$Offers", "surplus", "[J", true)
def tyX2 : Nat → FieldType := fun k => match k with
  | 0 => .array .int
  | _ => .array .long
abbrev wsX20 : List Cond := u_ws RX2 TX2 2
theorem nmX2 : ∀ a, a < 2 → ∀ b, b < 2 → a ≠ b → (TX2 a).2.1 ≠ (TX2 b).2.1 := by decide +kernel
theorem tyX2_ok : ∀ k, k < 2 → parseFieldDescriptor (TX2 k).2.2.1 = some (tyX2 k) := by decide +kernel
abbrev cX2_init : ByteArray := prog_4_method_1_code
def yX2_init : MethodName := ⟨RX2, "<init>", "()V"⟩
abbrev cX2_lay : ByteArray := prog_4_method_2_code
def yX2_lay : MethodName := ⟨RX2, "lay", "(LAdmiralGuinea$Book;III)V"⟩
abbrev cX2_bestSet : ByteArray := prog_4_method_3_code
def yX2_bestSet : MethodName := ⟨RX2, "bestSet", "(I)I"⟩
abbrev cX2_costOf : ByteArray := prog_4_method_4_code
def yX2_costOf : MethodName := ⟨RX2, "costOf", "(I)I"⟩
abbrev cX2_surplusOf : ByteArray := prog_4_method_5_code
def yX2_surplusOf : MethodName := ⟨RX2, "surplusOf", "(I)J"⟩
def RX3 : String := "AdmiralGuinea$Pad"
def TX3 : u_T := fun k => match k with
  | 0 => ("AdmiralGuinea$Pad", "count", "I", false)
  | _ => ("AdmiralGuinea$Pad", "signs", "[I", true)
def tyX3 : Nat → FieldType := fun k => match k with
  | 0 => .int
  | _ => .array .int
abbrev wsX30 : List Cond := u_ws RX3 TX3 2
theorem nmX3 : ∀ a, a < 2 → ∀ b, b < 2 → a ≠ b → (TX3 a).2.1 ≠ (TX3 b).2.1 := by decide +kernel
theorem tyX3_ok : ∀ k, k < 2 → parseFieldDescriptor (TX3 k).2.2.1 = some (tyX3 k) := by decide +kernel
abbrev cX3_init : ByteArray := prog_5_method_1_code
def yX3_init : MethodName := ⟨RX3, "<init>", "()V"⟩
abbrev cX3_write : ByteArray := prog_5_method_2_code
def yX3_write : MethodName := ⟨RX3, "write", "(I)Z"⟩
abbrev cX3_signAt : ByteArray := prog_5_method_3_code
def yX3_signAt : MethodName := ⟨RX3, "signAt", "(I)I"⟩
abbrev cX3_firstFault : ByteArray := prog_5_method_4_code
def yX3_firstFault : MethodName := ⟨RX3, "firstFault", "()I"⟩
abbrev cX3_stepBehind : ByteArray := prog_5_method_5_code
def yX3_stepBehind : MethodName := ⟨RX3, "stepBehind", "(II)I"⟩
abbrev cX3_stepOfFirst : ByteArray := prog_5_method_6_code
def yX3_stepOfFirst : MethodName := ⟨RX3, "stepOfFirst", "(I)I"⟩
abbrev cX3_stepOfSecond : ByteArray := prog_5_method_7_code
def yX3_stepOfSecond : MethodName := ⟨RX3, "stepOfSecond", "(I)I"⟩
abbrev cX3_lifeOf : ByteArray := prog_5_method_8_code
def yX3_lifeOf : MethodName := ⟨RX3, "lifeOf", "(I)I"⟩
abbrev cX3_buyerOf : ByteArray := prog_5_method_9_code
def yX3_buyerOf : MethodName := ⟨RX3, "buyerOf", "(I)I"⟩
def RX4 : String := "AdmiralGuinea$Worlds"
def TX4 : u_T := fun k => match k with
  | _ => ("AdmiralGuinea$Worlds", "tally", "[I", true)
def tyX4 : Nat → FieldType := fun k => match k with
  | _ => .array .int
abbrev wsX40 : List Cond := u_ws RX4 TX4 1
theorem nmX4 : ∀ a, a < 1 → ∀ b, b < 1 → a ≠ b → (TX4 a).2.1 ≠ (TX4 b).2.1 := by decide +kernel
theorem tyX4_ok : ∀ k, k < 1 → parseFieldDescriptor (TX4 k).2.2.1 = some (tyX4 k) := by decide +kernel
abbrev cX4_init : ByteArray := prog_6_method_1_code
def yX4_init : MethodName := ⟨RX4, "<init>", "()V"⟩
abbrev cX4_policyOf : ByteArray := prog_6_method_2_code
def yX4_policyOf : MethodName := ⟨RX4, "policyOf", "(I)I"⟩
abbrev cX4_holderIn : ByteArray := prog_6_method_3_code
def yX4_holderIn : MethodName := ⟨RX4, "holderIn", "(I)I"⟩
abbrev cX4_fitting : ByteArray := prog_6_method_4_code
def yX4_fitting : MethodName := ⟨RX4, "fitting", "(LAdmiralGuinea$Book;)J"⟩
abbrev cX4_everyWorld : ByteArray := prog_6_method_5_code
def yX4_everyWorld : MethodName := ⟨RX4, "everyWorld", "(LAdmiralGuinea$Book;)J"⟩
abbrev cX4_worldsThatSay : ByteArray := prog_6_method_6_code
def yX4_worldsThatSay : MethodName := ⟨RX4, "worldsThatSay", "(LAdmiralGuinea$Book;JI)J"⟩
abbrev cX4_moreIn : ByteArray := prog_6_method_7_code
def yX4_moreIn : MethodName := ⟨RX4, "moreIn", "(LAdmiralGuinea$Book;III)I"⟩
abbrev cX4_movedIn : ByteArray := prog_6_method_8_code
def yX4_movedIn : MethodName := ⟨RX4, "movedIn", "(J)I"⟩
abbrev cX4_mostLeft : ByteArray := prog_6_method_9_code
def yX4_mostLeft : MethodName := ⟨RX4, "mostLeft", "(LAdmiralGuinea$Book;JII)I"⟩
def RX5 : String := "AdmiralGuinea"
def TX5 : u_T := fun k => match k with
  | 0 => ("AdmiralGuinea", "book", "LAdmiralGuinea$Book;", true)
  | 1 => ("AdmiralGuinea", "course", "LAdmiralGuinea$Course;", true)
  | 2 => ("AdmiralGuinea", "pad", "LAdmiralGuinea$Pad;", true)
  | 3 => ("AdmiralGuinea", "offered", "LAdmiralGuinea$Offers;", true)
  | 4 => ("AdmiralGuinea", "worlds", "LAdmiralGuinea$Worlds;", true)
  | _ => ("AdmiralGuinea", "images", "[LAdmiralGuinea$Book;", true)
def tyX5 : Nat → FieldType := fun k => match k with
  | 0 => .object "AdmiralGuinea$Book"
  | 1 => .object "AdmiralGuinea$Course"
  | 2 => .object "AdmiralGuinea$Pad"
  | 3 => .object "AdmiralGuinea$Offers"
  | 4 => .object "AdmiralGuinea$Worlds"
  | _ => .array (.object "AdmiralGuinea$Book")
abbrev wsX50 : List Cond := u_ws RX5 TX5 6
theorem nmX5 : ∀ a, a < 6 → ∀ b, b < 6 → a ≠ b → (TX5 a).2.1 ≠ (TX5 b).2.1 := by decide +kernel
theorem tyX5_ok : ∀ k, k < 6 → parseFieldDescriptor (TX5 k).2.2.1 = some (tyX5 k) := by decide +kernel
abbrev cX5_init : ByteArray := prog_1_method_1_code
def yX5_init : MethodName := ⟨RX5, "<init>", "()V"⟩
abbrev cX5_odds : ByteArray := prog_1_method_2_code
def yX5_odds : MethodName := ⟨RX5, "odds", "(II)I"⟩
abbrev cX5_heir : ByteArray := prog_1_method_3_code
def yX5_heir : MethodName := ⟨RX5, "heir", "(I)I"⟩
abbrev cX5_cash : ByteArray := prog_1_method_4_code
def yX5_cash : MethodName := ⟨RX5, "cash", "(II)I"⟩
abbrev cX5_funds : ByteArray := prog_1_method_5_code
def yX5_funds : MethodName := ⟨RX5, "funds", "(I)I"⟩
abbrev cX5_say : ByteArray := prog_1_method_6_code
def yX5_say : MethodName := ⟨RX5, "say", "(I)I"⟩
abbrev cX5_wipe : ByteArray := prog_1_method_7_code
def yX5_wipe : MethodName := ⟨RX5, "wipe", "()I"⟩
abbrev cX5_fault : ByteArray := prog_1_method_8_code
def yX5_fault : MethodName := ⟨RX5, "fault", "()I"⟩
abbrev cX5_judge : ByteArray := prog_1_method_9_code
def yX5_judge : MethodName := ⟨RX5, "judge", "(I)I"⟩
abbrev cX5_done : ByteArray := prog_1_method_10_code
def yX5_done : MethodName := ⟨RX5, "done", "()I"⟩
abbrev cX5_behind : ByteArray := prog_1_method_11_code
def yX5_behind : MethodName := ⟨RX5, "behind", "(I)I"⟩
abbrev cX5_policy : ByteArray := prog_1_method_12_code
def yX5_policy : MethodName := ⟨RX5, "policy", "(II)I"⟩
abbrev cX5_price : ByteArray := prog_1_method_13_code
def yX5_price : MethodName := ⟨RX5, "price", "(III)I"⟩
abbrev cX5_chance : ByteArray := prog_1_method_14_code
def yX5_chance : MethodName := ⟨RX5, "chance", "(III)J"⟩
abbrev cX5_gains : ByteArray := prog_1_method_15_code
def yX5_gains : MethodName := ⟨RX5, "gains", "(II)I"⟩
abbrev cX5_worth : ByteArray := prog_1_method_16_code
def yX5_worth : MethodName := ⟨RX5, "worth", "(I)I"⟩
abbrev cX5_best : ByteArray := prog_1_method_17_code
def yX5_best : MethodName := ⟨RX5, "best", "(IIIII)J"⟩
abbrev cX5_buys : ByteArray := prog_1_method_18_code
def yX5_buys : MethodName := ⟨RX5, "buys", "(IIII)I"⟩
abbrev cX5_voids : ByteArray := prog_1_method_19_code
def yX5_voids : MethodName := ⟨RX5, "voids", "(II)I"⟩
abbrev cX5_ruin : ByteArray := prog_1_method_20_code
def yX5_ruin : MethodName := ⟨RX5, "ruin", "(III)J"⟩
abbrev cX5_tells : ByteArray := prog_1_method_21_code
def yX5_tells : MethodName := ⟨RX5, "tells", "(III)I"⟩
abbrev cX5_parts : ByteArray := prog_1_method_22_code
def yX5_parts : MethodName := ⟨RX5, "parts", "()I"⟩
abbrev cX5_seen : ByteArray := prog_1_method_23_code
def yX5_seen : MethodName := ⟨RX5, "seen", "(III)I"⟩
abbrev cX5_forget : ByteArray := prog_1_method_24_code
def yX5_forget : MethodName := ⟨RX5, "forget", "()I"⟩
abbrev cX5_liars : ByteArray := prog_1_method_25_code
def yX5_liars : MethodName := ⟨RX5, "liars", "(I)I"⟩
abbrev cX5_ask : ByteArray := prog_1_method_26_code
def yX5_ask : MethodName := ⟨RX5, "ask", "(I)I"⟩
abbrev cX5_pass : ByteArray := prog_1_method_27_code
def yX5_pass : MethodName := ⟨RX5, "pass", "(I)I"⟩
abbrev cX5_bets : ByteArray := prog_1_method_28_code
def yX5_bets : MethodName := ⟨RX5, "bets", "(IIII)J"⟩
abbrev cX5_year : ByteArray := prog_1_method_29_code
def yX5_year : MethodName := ⟨RX5, "year", "(III)I"⟩
abbrev cX5_image : ByteArray := prog_1_method_30_code
def yX5_image : MethodName := ⟨RX5, "image", "(I)I"⟩
abbrev cX5_restore : ByteArray := prog_1_method_31_code
def yX5_restore : MethodName := ⟨RX5, "restore", "(I)I"⟩
abbrev cX5_told : ByteArray := prog_1_method_32_code
def yX5_told : MethodName := ⟨RX5, "told", "(I)I"⟩
abbrev cX5_isWithin : ByteArray := prog_1_method_33_code
def yX5_isWithin : MethodName := ⟨RX5, "isWithin", "(III)Z"⟩
abbrev cX5_isLife : ByteArray := prog_1_method_34_code
def yX5_isLife : MethodName := ⟨RX5, "isLife", "(I)Z"⟩
abbrev cX5_isBuyer : ByteArray := prog_1_method_35_code
def yX5_isBuyer : MethodName := ⟨RX5, "isBuyer", "(I)Z"⟩
abbrev cX5_isPart : ByteArray := prog_1_method_36_code
def yX5_isPart : MethodName := ⟨RX5, "isPart", "(I)Z"⟩
abbrev cX5_refusalOfOffers : ByteArray := prog_1_method_37_code
def yX5_refusalOfOffers : MethodName := ⟨RX5, "refusalOfOffers", "(IIII)I"⟩
abbrev cX5_areWants : ByteArray := prog_1_method_38_code
def yX5_areWants : MethodName := ⟨RX5, "areWants", "(I)Z"⟩
abbrev cX5_digitOf : ByteArray := prog_1_method_39_code
def yX5_digitOf : MethodName := ⟨RX5, "digitOf", "(III)I"⟩
abbrev cX5_power : ByteArray := prog_1_method_40_code
def yX5_power : MethodName := ⟨RX5, "power", "(JI)J"⟩
abbrev cX5_choices : ByteArray := prog_1_method_41_code
def yX5_choices : MethodName := ⟨RX5, "choices", "(II)J"⟩
abbrev cX5_endings : ByteArray := prog_1_method_42_code
def yX5_endings : MethodName := ⟨RX5, "endings", "(II)J"⟩
abbrev cX5_priceOf : ByteArray := prog_1_method_43_code
def yX5_priceOf : MethodName := ⟨RX5, "priceOf", "(III)I"⟩
abbrev cX5_tellsApart : ByteArray := prog_1_method_44_code
def yX5_tellsApart : MethodName := ⟨RX5, "tellsApart", "(II)Z"⟩
abbrev cX5_lowest : ByteArray := prog_1_method_45_code
def yX5_lowest : MethodName := ⟨RX5, "lowest", "(JJI)J"⟩
abbrev cX5_commonDivisor : ByteArray := prog_1_method_46_code
def yX5_commonDivisor : MethodName := ⟨RX5, "commonDivisor", "(JJ)J"⟩
abbrev cX5_onlyOneWho : ByteArray := prog_1_method_47_code
def yX5_onlyOneWho : MethodName := ⟨RX5, "onlyOneWho", "(II)I"⟩
def RX6 : String := "AdmiralGuineaModel"
def TX6 : u_T := fun k => match k with
  | 0 => ("AdmiralGuineaModel", "book", "[I", true)
  | 1 => ("AdmiralGuineaModel", "now", "[I", true)
  | 2 => ("AdmiralGuineaModel", "sights", "I", false)
  | 3 => ("AdmiralGuineaModel", "sight", "[I", true)
  | 4 => ("AdmiralGuineaModel", "signs", "I", false)
  | 5 => ("AdmiralGuineaModel", "pad", "[I", true)
  | 6 => ("AdmiralGuineaModel", "paid", "I", false)
  | 7 => ("AdmiralGuineaModel", "isShort", "Z", false)
  | 8 => ("AdmiralGuineaModel", "reason", "I", false)
  | 9 => ("AdmiralGuineaModel", "acts", "I", false)
  | 10 => ("AdmiralGuineaModel", "shortAt", "I", false)
  | 11 => ("AdmiralGuineaModel", "bestUp", "J", false)
  | 12 => ("AdmiralGuineaModel", "gain", "[I", true)
  | 13 => ("AdmiralGuineaModel", "want", "[I", true)
  | 14 => ("AdmiralGuineaModel", "image", "[I", true)
  | _ => ("AdmiralGuineaModel", "isKept", "[Z", true)
def tyX6 : Nat → FieldType := fun k => match k with
  | 0 => .array .int
  | 1 => .array .int
  | 2 => .int
  | 3 => .array .int
  | 4 => .int
  | 5 => .array .int
  | 6 => .int
  | 7 => .boolean
  | 8 => .int
  | 9 => .int
  | 10 => .int
  | 11 => .long
  | 12 => .array .int
  | 13 => .array .int
  | 14 => .array .int
  | _ => .array .boolean
abbrev wsX60 : List Cond := u_ws RX6 TX6 16
theorem nmX6 : ∀ a, a < 16 → ∀ b, b < 16 → a ≠ b → (TX6 a).2.1 ≠ (TX6 b).2.1 := by decide +kernel
theorem tyX6_ok : ∀ k, k < 16 → parseFieldDescriptor (TX6 k).2.2.1 = some (tyX6 k) := by decide +kernel
abbrev cX6_init : ByteArray := prog_8_method_1_code
def yX6_init : MethodName := ⟨RX6, "<init>", "()V"⟩
abbrev cX6_in : ByteArray := prog_8_method_2_code
def yX6_in : MethodName := ⟨RX6, "in", "(III)Z"⟩
abbrev cX6_has : ByteArray := prog_8_method_3_code
def yX6_has : MethodName := ⟨RX6, "has", "(II)Z"⟩
abbrev cX6_bits : ByteArray := prog_8_method_4_code
def yX6_bits : MethodName := ⟨RX6, "bits", "(I)I"⟩
abbrev cX6_isLife : ByteArray := prog_8_method_5_code
def yX6_isLife : MethodName := ⟨RX6, "isLife", "(I)Z"⟩
abbrev cX6_isBuyer : ByteArray := prog_8_method_6_code
def yX6_isBuyer : MethodName := ⟨RX6, "isBuyer", "(I)Z"⟩
abbrev cX6_odds : ByteArray := prog_8_method_7_code
def yX6_odds : MethodName := ⟨RX6, "odds", "(II)I"⟩
abbrev cX6_heir : ByteArray := prog_8_method_8_code
def yX6_heir : MethodName := ⟨RX6, "heir", "(I)I"⟩
abbrev cX6_cash : ByteArray := prog_8_method_9_code
def yX6_cash : MethodName := ⟨RX6, "cash", "(II)I"⟩
abbrev cX6_funds : ByteArray := prog_8_method_10_code
def yX6_funds : MethodName := ⟨RX6, "funds", "(I)I"⟩
abbrev cX6_say : ByteArray := prog_8_method_11_code
def yX6_say : MethodName := ⟨RX6, "say", "(I)I"⟩
abbrev cX6_wipe : ByteArray := prog_8_method_12_code
def yX6_wipe : MethodName := ⟨RX6, "wipe", "()I"⟩
abbrev cX6_isLifeSign : ByteArray := prog_8_method_13_code
def yX6_isLifeSign : MethodName := ⟨RX6, "isLifeSign", "(I)Z"⟩
abbrev cX6_isBuyerSign : ByteArray := prog_8_method_14_code
def yX6_isBuyerSign : MethodName := ⟨RX6, "isBuyerSign", "(I)Z"⟩
abbrev cX6_faultOf : ByteArray := prog_8_method_15_code
def yX6_faultOf : MethodName := ⟨RX6, "faultOf", "()I"⟩
abbrev cX6_fault : ByteArray := prog_8_method_16_code
def yX6_fault : MethodName := ⟨RX6, "fault", "()I"⟩
abbrev cX6_asNow : ByteArray := prog_8_method_17_code
def yX6_asNow : MethodName := ⟨RX6, "asNow", "()V"⟩
abbrev cX6_power : ByteArray := prog_8_method_18_code
def yX6_power : MethodName := ⟨RX6, "power", "(JI)J"⟩
abbrev cX6_priceOf : ByteArray := prog_8_method_19_code
def yX6_priceOf : MethodName := ⟨RX6, "priceOf", "(III)I"⟩
abbrev cX6_holder : ByteArray := prog_8_method_20_code
def yX6_holder : MethodName := ⟨RX6, "holder", "(I)I"⟩
abbrev cX6_lifeOf : ByteArray := prog_8_method_21_code
def yX6_lifeOf : MethodName := ⟨RX6, "lifeOf", "(I)I"⟩
abbrev cX6_sumOf : ByteArray := prog_8_method_22_code
def yX6_sumOf : MethodName := ⟨RX6, "sumOf", "(I)I"⟩
abbrev cX6_gone : ByteArray := prog_8_method_23_code
def yX6_gone : MethodName := ⟨RX6, "gone", "(I)V"⟩
abbrev cX6_buy : ByteArray := prog_8_method_24_code
def yX6_buy : MethodName := ⟨RX6, "buy", "(IIII)I"⟩
abbrev cX6_gets : ByteArray := prog_8_method_25_code
def yX6_gets : MethodName := ⟨RX6, "gets", "(II)V"⟩
abbrev cX6_passes : ByteArray := prog_8_method_26_code
def yX6_passes : MethodName := ⟨RX6, "passes", "(III)I"⟩
abbrev cX6_end : ByteArray := prog_8_method_27_code
def yX6_end : MethodName := ⟨RX6, "end", "(I)V"⟩
abbrev cX6_life : ByteArray := prog_8_method_28_code
def yX6_life : MethodName := ⟨RX6, "life", "(II)I"⟩
abbrev cX6_month : ByteArray := prog_8_method_29_code
def yX6_month : MethodName := ⟨RX6, "month", "()I"⟩
abbrev cX6_goMonths : ByteArray := prog_8_method_30_code
def yX6_goMonths : MethodName := ⟨RX6, "goMonths", "()I"⟩
abbrev cX6_judge : ByteArray := prog_8_method_31_code
def yX6_judge : MethodName := ⟨RX6, "judge", "(I)I"⟩
abbrev cX6_barOfMonths : ByteArray := prog_8_method_32_code
def yX6_barOfMonths : MethodName := ⟨RX6, "barOfMonths", "()I"⟩
abbrev cX6_done : ByteArray := prog_8_method_33_code
def yX6_done : MethodName := ⟨RX6, "done", "()I"⟩
abbrev cX6_behind : ByteArray := prog_8_method_34_code
def yX6_behind : MethodName := ⟨RX6, "behind", "(I)I"⟩
abbrev cX6_isPolicy : ByteArray := prog_8_method_35_code
def yX6_isPolicy : MethodName := ⟨RX6, "isPolicy", "(I)Z"⟩
abbrev cX6_policy : ByteArray := prog_8_method_36_code
def yX6_policy : MethodName := ⟨RX6, "policy", "(II)I"⟩
abbrev cX6_price : ByteArray := prog_8_method_37_code
def yX6_price : MethodName := ⟨RX6, "price", "(III)I"⟩
abbrev cX6_part : ByteArray := prog_8_method_38_code
def yX6_part : MethodName := ⟨RX6, "part", "(JJI)J"⟩
abbrev cX6_chance : ByteArray := prog_8_method_39_code
def yX6_chance : MethodName := ⟨RX6, "chance", "(III)J"⟩
abbrev cX6_gainsBy : ByteArray := prog_8_method_40_code
def yX6_gainsBy : MethodName := ⟨RX6, "gainsBy", "(IIII)I"⟩
abbrev cX6_gains : ByteArray := prog_8_method_41_code
def yX6_gains : MethodName := ⟨RX6, "gains", "(II)I"⟩
abbrev cX6_worth : ByteArray := prog_8_method_42_code
def yX6_worth : MethodName := ⟨RX6, "worth", "(I)I"⟩
abbrev cX6_digit : ByteArray := prog_8_method_43_code
def yX6_digit : MethodName := ⟨RX6, "digit", "(II)I"⟩
abbrev cX6_areOffers : ByteArray := prog_8_method_44_code
def yX6_areOffers : MethodName := ⟨RX6, "areOffers", "(III)Z"⟩
abbrev cX6_bestSet : ByteArray := prog_8_method_45_code
def yX6_bestSet : MethodName := ⟨RX6, "bestSet", "(IIII)I"⟩
abbrev cX6_best : ByteArray := prog_8_method_46_code
def yX6_best : MethodName := ⟨RX6, "best", "(IIIII)J"⟩
abbrev cX6_buys : ByteArray := prog_8_method_47_code
def yX6_buys : MethodName := ⟨RX6, "buys", "(IIII)I"⟩
abbrev cX6_voids : ByteArray := prog_8_method_48_code
def yX6_voids : MethodName := ⟨RX6, "voids", "(II)I"⟩
abbrev cX6_allOn : ByteArray := prog_8_method_49_code
def yX6_allOn : MethodName := ⟨RX6, "allOn", "(I)I"⟩
abbrev cX6_ruin : ByteArray := prog_8_method_50_code
def yX6_ruin : MethodName := ⟨RX6, "ruin", "(III)J"⟩
abbrev cX6_tells : ByteArray := prog_8_method_51_code
def yX6_tells : MethodName := ⟨RX6, "tells", "(III)I"⟩
abbrev cX6_parts : ByteArray := prog_8_method_52_code
def yX6_parts : MethodName := ⟨RX6, "parts", "()I"⟩
abbrev cX6_seen : ByteArray := prog_8_method_53_code
def yX6_seen : MethodName := ⟨RX6, "seen", "(III)I"⟩
abbrev cX6_forget : ByteArray := prog_8_method_54_code
def yX6_forget : MethodName := ⟨RX6, "forget", "()I"⟩
abbrev cX6_gainsIn : ByteArray := prog_8_method_55_code
def yX6_gainsIn : MethodName := ⟨RX6, "gainsIn", "(III)I"⟩
abbrev cX6_isWorld : ByteArray := prog_8_method_56_code
def yX6_isWorld : MethodName := ⟨RX6, "isWorld", "(I)Z"⟩
abbrev cX6_liars : ByteArray := prog_8_method_57_code
def yX6_liars : MethodName := ⟨RX6, "liars", "(I)I"⟩
abbrev cX6_ask : ByteArray := prog_8_method_58_code
def yX6_ask : MethodName := ⟨RX6, "ask", "(I)I"⟩
abbrev cX6_pass : ByteArray := prog_8_method_59_code
def yX6_pass : MethodName := ⟨RX6, "pass", "(I)I"⟩
abbrev cX6_bets : ByteArray := prog_8_method_60_code
def yX6_bets : MethodName := ⟨RX6, "bets", "(IIII)J"⟩
abbrev cX6_year : ByteArray := prog_8_method_61_code
def yX6_year : MethodName := ⟨RX6, "year", "(III)I"⟩
abbrev cX6_image : ByteArray := prog_8_method_62_code
def yX6_image : MethodName := ⟨RX6, "image", "(I)I"⟩
abbrev cX6_restore : ByteArray := prog_8_method_63_code
def yX6_restore : MethodName := ⟨RX6, "restore", "(I)I"⟩
abbrev cX6_told : ByteArray := prog_8_method_64_code
def yX6_told : MethodName := ⟨RX6, "told", "(I)I"⟩
def RJ6 : String := "java/lang/Integer"
def TJ6 : u_T := fun k => match k with
  | _ => ("", "", "", false)
def tyJ6 : Nat → FieldType := fun k => match k with
  | _ => .int
abbrev wsJ60 : List Cond := u_ws RJ6 TJ6 0
theorem nmJ6 : ∀ a, a < 0 → ∀ b, b < 0 → a ≠ b → (TJ6 a).2.1 ≠ (TJ6 b).2.1 := by decide +kernel
theorem tyJ6_ok : ∀ k, k < 0 → parseFieldDescriptor (TJ6 k).2.2.1 = some (tyJ6 k) := by decide +kernel
abbrev cJ6_bitCount_0f7a4 : ByteArray := prog_9_method_49_code
def yJ6_bitCount_0f7a4 : MethodName := ⟨RJ6, "bitCount", "(I)I"⟩
def RJ13 : String := "java/lang/Long"
def TJ13 : u_T := fun k => match k with
  | _ => ("", "", "", false)
def tyJ13 : Nat → FieldType := fun k => match k with
  | _ => .int
abbrev wsJ130 : List Cond := u_ws RJ13 TJ13 0
theorem nmJ13 : ∀ a, a < 0 → ∀ b, b < 0 → a ≠ b → (TJ13 a).2.1 ≠ (TJ13 b).2.1 := by decide +kernel
theorem tyJ13_ok : ∀ k, k < 0 → parseFieldDescriptor (TJ13 k).2.2.1 = some (tyJ13 k) := by decide +kernel
abbrev cJ13_bitCount_95d88 : ByteArray := prog_10_method_50_code
def yJ13_bitCount_95d88 : MethodName := ⟨RJ13, "bitCount", "(J)I"⟩
def RJ9 : String := "java/lang/Math"
def TJ9 : u_T := fun k => match k with
  | _ => ("", "", "", false)
def tyJ9 : Nat → FieldType := fun k => match k with
  | _ => .int
abbrev wsJ90 : List Cond := u_ws RJ9 TJ9 0
theorem nmJ9 : ∀ a, a < 0 → ∀ b, b < 0 → a ≠ b → (TJ9 a).2.1 ≠ (TJ9 b).2.1 := by decide +kernel
theorem tyJ9_ok : ∀ k, k < 0 → parseFieldDescriptor (TJ9 k).2.2.1 = some (tyJ9 k) := by decide +kernel
abbrev cJ9_max_7cf53 : ByteArray := prog_11_method_65_code
def yJ9_max_7cf53 : MethodName := ⟨RJ9, "max", "(II)I"⟩
abbrev cJ9_min_7cf53 : ByteArray := prog_11_method_69_code
def yJ9_min_7cf53 : MethodName := ⟨RJ9, "min", "(II)I"⟩
def RJ10 : String := "java/lang/System"
def TJ10 : u_T := fun k => match k with
  | _ => ("", "", "", false)
def tyJ10 : Nat → FieldType := fun k => match k with
  | _ => .int
abbrev wsJ100 : List Cond := u_ws RJ10 TJ10 0
theorem nmJ10 : ∀ a, a < 0 → ∀ b, b < 0 → a ≠ b → (TJ10 a).2.1 ≠ (TJ10 b).2.1 := by decide +kernel
theorem tyJ10_ok : ∀ k, k < 0 → parseFieldDescriptor (TJ10 k).2.2.1 = some (tyJ10 k) := by decide +kernel
def RL : String := "AdmiralGuineaLaw"
abbrev cL_law : ByteArray := code
def yL_law : MethodName := ⟨RL, "law", "([I)Z"⟩
end
section
/-! THE SMALL INTERPRETER: methods as tables of instructions with their operands resolved; the heap a list of cells, a reference is a place in it (place 0 is the script) -/
abbrev gi_H : Type := List va_E
abbrev gi_Lv : Type := List (Option Value)
/-- an instruction with what it means here: a, b numbers (a target, a place of the locals, a class and a field, a method and how many it takes ..), v a value (a constant, a kind) -/
abbrev gi_I : Type := Instr × Nat × Nat × Value
abbrev gi_R : Type := Nat × gi_I
/-- own class, bytes, name, places of locals, answer, rank, table -/
abbrev gi_M : Type := String × ByteArray × MethodName × Nat × Option FieldType × Nat × List gi_R
abbrev gi_own (M : gi_M) : String := M.1
abbrev gi_code (M : gi_M) : ByteArray := M.2.1
abbrev gi_name (M : gi_M) : MethodName := M.2.2.1
abbrev gi_maxL (M : gi_M) : Nat := M.2.2.2.1
abbrev gi_ret (M : gi_M) : Option FieldType := M.2.2.2.2.1
abbrev gi_rk (M : gi_M) : Nat := M.2.2.2.2.2.1
abbrev gi_tab (M : gi_M) : List gi_R := M.2.2.2.2.2.2
def gi_look : List gi_R → Nat → Option gi_I
  | [], _ => none
  | r :: t, pc => match Nat.beq r.1 pc with
    | true => some r.2
    | false => gi_look t pc
def gi_ld : gi_Lv → Nat → Option Value
  | [], _ => none
  | o :: _, 0 => o
  | _ :: t, n + 1 => gi_ld t n
def gi_cl : Option Value → Option Value
  | some (.long _) => none
  | some (.double _) => none
  | o => o
/-- a value of one word is put -/
def gi_s1 : gi_Lv → Nat → Value → Option gi_Lv
  | [], _, _ => none
  | _ :: t, 0, v => some (some v :: t)
  | o :: t, 1, v => match t with
    | [] => none
    | _ :: t' => some (gi_cl o :: some v :: t')
  | o :: t, n + 2, v => match gi_s1 t (n + 1) v with
    | none => none
    | some t' => some (o :: t')
/-- a value of two words is put -/
def gi_s2 : gi_Lv → Nat → Value → Option gi_Lv
  | [], _, _ => none
  | _ :: t, 0, v => match t with
    | [] => none
    | _ :: t' => some (some v :: none :: t')
  | o :: t, 1, v => match t with
    | _ :: _ :: t' => some (gi_cl o :: some v :: none :: t')
    | _ => none
  | o :: t, n + 2, v => match gi_s2 t (n + 1) v with
    | none => none
    | some t' => some (o :: t')
def gi_fg (h : gi_H) (o ci k : Nat) : Option Value := match h[o]? with
  | some (.inr (c, fs)) => if c = ci then fs[k]? else none
  | _ => none
def gi_fp (h : gi_H) (o ci k : Nat) (v : Value) : Option gi_H := match h[o]? with
  | some (.inr (c, fs)) => if c = ci ∧ k < fs.length then some (h.set o (.inr (c, fs.set k v))) else none
  | _ => none
def gi_is (h : gi_H) (o ci : Nat) : Bool := match h[o]? with
  | some (.inr (c, _)) => Nat.beq c ci
  | _ => false
def gi_ai (h : gi_H) (o t : Nat) (i : Int32) : Option Int32 := match h[o]? with
  | some (.inl (t', n, .inl f)) => if t' = t ∧ ¬ (i < 0 ∨ n ≤ i.toNatClampNeg) then some (f i.toNatClampNeg) else none
  | _ => none
def gi_pi (h : gi_H) (o t : Nat) (i x : Int32) : Option gi_H := match h[o]? with
  | some (.inl (t', n, .inl f)) => if t' = t ∧ ¬ (i < 0 ∨ n ≤ i.toNatClampNeg) then some (h.set o (.inl (t', n, .inl (upd f i.toNatClampNeg x)))) else none
  | _ => none
def gi_al (h : gi_H) (o : Nat) (i : Int32) : Option Int64 := match h[o]? with
  | some (.inl (t', n, .inr (.inl f))) => if t' = 1 ∧ ¬ (i < 0 ∨ n ≤ i.toNatClampNeg) then some (f i.toNatClampNeg) else none
  | _ => none
def gi_pl (h : gi_H) (o : Nat) (i : Int32) (x : Int64) : Option gi_H := match h[o]? with
  | some (.inl (t', n, .inr (.inl f))) => if t' = 1 ∧ ¬ (i < 0 ∨ n ≤ i.toNatClampNeg) then some (h.set o (.inl (t', n, .inr (.inl (vp_updL f i.toNatClampNeg x))))) else none
  | _ => none
def gi_aq (h : gi_H) (o : Nat) (i : Int32) : Option (Option Nat) := match h[o]? with
  | some (.inl (t', n, .inr (.inr (.inr (.inr f))))) => if t' = 3 ∧ ¬ (i < 0 ∨ n ≤ i.toNatClampNeg) then some (f i.toNatClampNeg) else none
  | _ => none
/-- the value stored is an object of class ci -/
def gi_pq (h : gi_H) (o : Nat) (i : Int32) (x ci : Nat) : Option gi_H := match h[o]? with
  | some (.inl (t', n, .inr (.inr (.inr (.inr f))))) => if t' = 3 ∧ ¬ (i < 0 ∨ n ≤ i.toNatClampNeg) ∧ gi_is h x ci = true then some (h.set o (.inl (t', n, .inr (.inr (.inr (.inr (va_up f i.toNatClampNeg (some x)))))))) else none
  | _ => none
def gi_an (h : gi_H) (o t : Nat) : Option Nat := match h[o]? with
  | some (.inl (t', n, .inl _)) => if t' = t then some n else none
  | _ => none
def gi_cp (h : gi_H) (a : Nat) (sp : Int32) (d : Nat) (dp n : Int32) : Option gi_H := match h[a]?, h[d]? with
  | some (.inl (t0, n0, .inl f)), some (.inl (t1, n1, .inl g)) => if t0 = 0 ∧ t1 = 0 ∧ ¬ sp < 0 ∧ ¬ dp < 0 ∧ ¬ n < 0 ∧ sp.toNatClampNeg + n.toNatClampNeg ≤ n0 ∧ dp.toNatClampNeg + n.toNatClampNeg ≤ n1 then some (h.set d (.inl (t1, n1, .inl (va_cpy f g sp.toNatClampNeg dp.toNatClampNeg n.toNatClampNeg)))) else none
  | _, _ => none
def gi_na (t n : Nat) : va_E := match t with
  | 0 => .inl (0, n, .inl (fun _ => 0))
  | 1 => .inl (1, n, .inr (.inl (fun _ => 0)))
  | 2 => .inl (2, n, .inl (fun _ => 0))
  | _ => .inl (3, n, .inr (.inr (.inr (.inr (fun _ => none)))))
/-- a field of this kind may hold this value: .int an int, .long a long, .null a reference, .float a boolean -/
def gi_kd : Value → Value → Bool
  | .int _, .int _ => true
  | .long _, .long _ => true
  | .null, .ref _ => true
  | .float _, .int x => decide (x = 0 ∨ x = 1)
  | _, _ => false
def gi_tg (pc : Nat) (off : Int) : Option Nat := match (pc : Int) + off with
  | .ofNat k => some k
  | .negSucc _ => none
abbrev gi_S : Type := Nat × gi_Lv × List Value × gi_H
abbrev gi_O : Type := gi_S ⊕ (Option Value ⊕ (Nat × List Value × List Value))
abbrev gi_k (pc : Nat) (lv : gi_Lv) (st : List Value) (h : gi_H) : Option gi_O := some (.inl (pc, lv, st, h))
def gi_rok : Option FieldType → Int32 → Bool
  | some .int, _ => true
  | some .boolean, x => decide (x = 0 ∨ x = 1)
  | _, _ => false
def gi_kl (pc : Nat) (o : Option gi_Lv) (st : List Value) (h : gi_H) : Option gi_O := match o with
  | none => none
  | some lv => gi_k pc lv st h
def gi_kh (pc : Nat) (lv : gi_Lv) (st : List Value) (o : Option gi_H) : Option gi_O := match o with
  | none => none
  | some h => gi_k pc lv st h
def gi_kp (o : Option Nat) (lv : gi_Lv) (st : List Value) (h : gi_H) : Option gi_O := match o with
  | none => none
  | some pc => gi_k pc lv st h
/-- n values are taken off, the topmost last -/
def gi_tk : Nat → List Value → List Value → Option (List Value × List Value)
  | 0, acc, st => some (acc, st)
  | n + 1, acc, v :: st => gi_tk n (v :: acc) st
  | _ + 1, _, [] => none
def gi_cat : List Value → Nat
  | [] => 0
  | v :: t => v.category + gi_cat t
def gi_call (j b : Nat) (st : List Value) : Option gi_O := match gi_tk b [] st with
  | none => none
  | some (as, rest) => if gi_cat rest ≤ 8 then some (.inr (.inr (j, as, rest))) else none
def gi_hd : List Value → Option Nat
  | .ref o :: _ => some o
  | _ => none
def gi_callV (j b ci : Nat) (st : List Value) (h : gi_H) : Option gi_O := match gi_tk b [] st with
  | none => none
  | some (as, rest) => match gi_hd as with
    | none => none
    | some o => match gi_is h o ci with
      | true => if gi_cat rest ≤ 8 then some (.inr (.inr (j, as, rest))) else none
      | false => none
/-- one instruction; df: a new object's fields by its class -/
def gi_go (df : Nat → List Value) (ret : Option FieldType) (r : gi_I) (pc : Nat) (lv : gi_Lv) (st : List Value) (h : gi_H) : Option gi_O :=
  match r with
  | (ins, a, b, v) => match ins with
    | .iconst _ => gi_k (pc + 1) lv (v :: st) h
    | .lconst _ => gi_k (pc + 1) lv (v :: st) h
    | .bipush _ => gi_k (pc + 2) lv (v :: st) h
    | .sipush _ => gi_k (pc + 3) lv (v :: st) h
    | .ldc _ => gi_k (pc + 2) lv (v :: st) h
    | .ldc_w _ => gi_k (pc + 3) lv (v :: st) h
    | .ldc2_w _ => gi_k (pc + 3) lv (v :: st) h
    | .iload_n _ => match gi_ld lv a with
      | some (.int x) => gi_k (pc + 1) lv (.int x :: st) h
      | _ => none
    | .iload _ => match gi_ld lv a with
      | some (.int x) => gi_k (pc + 2) lv (.int x :: st) h
      | _ => none
    | .lload_n _ => match gi_ld lv a with
      | some (.long x) => gi_k (pc + 1) lv (.long x :: st) h
      | _ => none
    | .lload _ => match gi_ld lv a with
      | some (.long x) => gi_k (pc + 2) lv (.long x :: st) h
      | _ => none
    | .aload_n _ => match gi_ld lv a with
      | some (.ref x) => gi_k (pc + 1) lv (.ref x :: st) h
      | some .null => gi_k (pc + 1) lv (.null :: st) h
      | _ => none
    | .istore_n _ => match st with
      | .int x :: st' => gi_kl (pc + 1) (gi_s1 lv a (.int x)) st' h
      | _ => none
    | .istore _ => match st with
      | .int x :: st' => gi_kl (pc + 2) (gi_s1 lv a (.int x)) st' h
      | _ => none
    | .lstore_n _ => match st with
      | .long x :: st' => gi_kl (pc + 1) (gi_s2 lv a (.long x)) st' h
      | _ => none
    | .lstore _ => match st with
      | .long x :: st' => gi_kl (pc + 2) (gi_s2 lv a (.long x)) st' h
      | _ => none
    | .astore_n _ => match st with
      | .ref x :: st' => gi_kl (pc + 1) (gi_s1 lv a (.ref x)) st' h
      | .null :: st' => gi_kl (pc + 1) (gi_s1 lv a .null) st' h
      | _ => none
    | .iinc _ _ => match gi_ld lv a, v with
      | some (.int x), .int c => gi_kl (pc + 3) (gi_s1 lv a (.int (x + c))) st h
      | _, _ => none
    | .iadd => match st with
      | .int y :: .int x :: st' => gi_k (pc + 1) lv (.int (x + y) :: st') h
      | _ => none
    | .isub => match st with
      | .int y :: .int x :: st' => gi_k (pc + 1) lv (.int (x - y) :: st') h
      | _ => none
    | .imul => match st with
      | .int y :: .int x :: st' => gi_k (pc + 1) lv (.int (x * y) :: st') h
      | _ => none
    | .idiv => match st with
      | .int y :: .int x :: st' => if y = 0 then none else gi_k (pc + 1) lv (.int (x / y) :: st') h
      | _ => none
    | .irem => match st with
      | .int y :: .int x :: st' => if y = 0 then none else gi_k (pc + 1) lv (.int (x - x / y * y) :: st') h
      | _ => none
    | .ineg => match st with
      | .int x :: st' => gi_k (pc + 1) lv (.int (-x) :: st') h
      | _ => none
    | .iand => match st with
      | .int y :: .int x :: st' => gi_k (pc + 1) lv (.int (x &&& y) :: st') h
      | _ => none
    | .ior => match st with
      | .int y :: .int x :: st' => gi_k (pc + 1) lv (.int (x ||| y) :: st') h
      | _ => none
    | .ixor => match st with
      | .int y :: .int x :: st' => gi_k (pc + 1) lv (.int (x ^^^ y) :: st') h
      | _ => none
    | .ishl => match st with
      | .int y :: .int x :: st' => gi_k (pc + 1) lv (.int (x <<< (y &&& 31)) :: st') h
      | _ => none
    | .ishr => match st with
      | .int y :: .int x :: st' => gi_k (pc + 1) lv (.int (x >>> (y &&& 31)) :: st') h
      | _ => none
    | .iushr => match st with
      | .int y :: .int x :: st' => gi_k (pc + 1) lv (.int ((x.toUInt32 >>> (y.toUInt32 &&& Int32.toUInt32 31)).toInt32) :: st') h
      | _ => none
    | .ladd => match st with
      | .long y :: .long x :: st' => gi_k (pc + 1) lv (.long (x + y) :: st') h
      | _ => none
    | .lsub => match st with
      | .long y :: .long x :: st' => gi_k (pc + 1) lv (.long (x - y) :: st') h
      | _ => none
    | .lmul => match st with
      | .long y :: .long x :: st' => gi_k (pc + 1) lv (.long (x * y) :: st') h
      | _ => none
    | .ldiv => match st with
      | .long y :: .long x :: st' => if y = 0 then none else gi_k (pc + 1) lv (.long (x / y) :: st') h
      | _ => none
    | .lrem => match st with
      | .long y :: .long x :: st' => if y = 0 then none else gi_k (pc + 1) lv (.long (x - x / y * y) :: st') h
      | _ => none
    | .lneg => match st with
      | .long x :: st' => gi_k (pc + 1) lv (.long (-x) :: st') h
      | _ => none
    | .land => match st with
      | .long y :: .long x :: st' => gi_k (pc + 1) lv (.long (x &&& y) :: st') h
      | _ => none
    | .lor => match st with
      | .long y :: .long x :: st' => gi_k (pc + 1) lv (.long (x ||| y) :: st') h
      | _ => none
    | .lshl => match st with
      | .int y :: .long x :: st' => gi_k (pc + 1) lv (.long (x <<< (y.toInt64 &&& 63)) :: st') h
      | _ => none
    | .lshr => match st with
      | .int y :: .long x :: st' => gi_k (pc + 1) lv (.long (x >>> (y.toInt64 &&& 63)) :: st') h
      | _ => none
    | .lushr => match st with
      | .int y :: .long x :: st' => gi_k (pc + 1) lv (.long ((x.toUInt64 >>> (y.toInt64.toUInt64 &&& Int64.toUInt64 63)).toInt64) :: st') h
      | _ => none
    | .lcmp => match st with
      | .long y :: .long x :: st' => gi_k (pc + 1) lv (.int (lg_cmp x y) :: st') h
      | _ => none
    | .i2l => match st with
      | .int x :: st' => gi_k (pc + 1) lv (.long x.toInt64 :: st') h
      | _ => none
    | .l2i => match st with
      | .long x :: st' => gi_k (pc + 1) lv (.int x.toInt32 :: st') h
      | _ => none
    | .dup => match st with
      | .int x :: st' => gi_k (pc + 1) lv (.int x :: .int x :: st') h
      | .ref x :: st' => gi_k (pc + 1) lv (.ref x :: .ref x :: st') h
      | _ => none
    | .dup2 => match st with
      | .int y :: .ref x :: st' => gi_k (pc + 1) lv (.int y :: .ref x :: .int y :: .ref x :: st') h
      | _ => none
    | .pop => match st with
      | .int _ :: st' => gi_k (pc + 1) lv st' h
      | _ => none
    | .goto _ => gi_k a lv st h
    | .ifCond .eq _ => match st with
      | .int x :: st' => if x = 0 then gi_k a lv st' h else gi_k (pc + 3) lv st' h
      | _ => none
    | .ifCond .ne _ => match st with
      | .int x :: st' => if x = 0 then gi_k (pc + 3) lv st' h else gi_k a lv st' h
      | _ => none
    | .ifCond .lt _ => match st with
      | .int x :: st' => if x < 0 then gi_k a lv st' h else gi_k (pc + 3) lv st' h
      | _ => none
    | .ifCond .ge _ => match st with
      | .int x :: st' => if 0 ≤ x then gi_k a lv st' h else gi_k (pc + 3) lv st' h
      | _ => none
    | .ifCond .gt _ => match st with
      | .int x :: st' => if 0 < x then gi_k a lv st' h else gi_k (pc + 3) lv st' h
      | _ => none
    | .ifCond .le _ => match st with
      | .int x :: st' => if x ≤ 0 then gi_k a lv st' h else gi_k (pc + 3) lv st' h
      | _ => none
    | .if_icmp .eq _ => match st with
      | .int y :: .int x :: st' => if x = y then gi_k a lv st' h else gi_k (pc + 3) lv st' h
      | _ => none
    | .if_icmp .ne _ => match st with
      | .int y :: .int x :: st' => if x = y then gi_k (pc + 3) lv st' h else gi_k a lv st' h
      | _ => none
    | .if_icmp .lt _ => match st with
      | .int y :: .int x :: st' => if x < y then gi_k a lv st' h else gi_k (pc + 3) lv st' h
      | _ => none
    | .if_icmp .ge _ => match st with
      | .int y :: .int x :: st' => if y ≤ x then gi_k a lv st' h else gi_k (pc + 3) lv st' h
      | _ => none
    | .if_icmp .gt _ => match st with
      | .int y :: .int x :: st' => if y < x then gi_k a lv st' h else gi_k (pc + 3) lv st' h
      | _ => none
    | .if_icmp .le _ => match st with
      | .int y :: .int x :: st' => if x ≤ y then gi_k a lv st' h else gi_k (pc + 3) lv st' h
      | _ => none
    | .ifnonnull _ => match st with
      | .ref _ :: st' => gi_k a lv st' h
      | .null :: st' => gi_k (pc + 3) lv st' h
      | _ => none
    | .tableswitch dflt lo hi offs => match st with
      | .int x :: st' => if x.toInt < lo ∨ hi < x.toInt then gi_kp (gi_tg pc dflt) lv st' h else match offs[(x.toInt - lo).toNat]? with
        | none => none
        | some off => gi_kp (gi_tg pc off) lv st' h
      | _ => none
    | .lookupswitch dflt ps => match st with
      | .int x :: st' => gi_kp (gi_tg pc (Op.lookupswitch.offset ps.toList dflt x.toInt)) lv st' h
      | _ => none
    | .getfield _ => match st with
      | .ref o :: st' => match gi_fg h o a b with
        | none => none
        | some w => gi_k (pc + 3) lv (w :: st') h
      | _ => none
    | .putfield _ => match st with
      | w :: .ref o :: st' => match gi_kd v w with
        | true => gi_kh (pc + 3) lv st' (gi_fp h o a b w)
        | false => none
      | _ => none
    | .iaload => match st with
      | .int i :: .ref o :: st' => match gi_ai h o a i with
        | none => none
        | some x => gi_k (pc + 1) lv (.int x :: st') h
      | _ => none
    | .baload => match st with
      | .int i :: .ref o :: st' => match gi_ai h o 2 i with
        | none => none
        | some x => gi_k (pc + 1) lv (.int x :: st') h
      | _ => none
    | .laload => match st with
      | .int i :: .ref o :: st' => match gi_al h o i with
        | none => none
        | some x => gi_k (pc + 1) lv (.long x :: st') h
      | _ => none
    | .aaload => match st with
      | .int i :: .ref o :: st' => match gi_aq h o i with
        | none => none
        | some none => gi_k (pc + 1) lv (.null :: st') h
        | some (some x) => gi_k (pc + 1) lv (.ref x :: st') h
      | _ => none
    | .iastore => match st with
      | .int x :: .int i :: .ref o :: st' => gi_kh (pc + 1) lv st' (gi_pi h o 0 i x)
      | _ => none
    | .bastore => match st with
      | .int x :: .int i :: .ref o :: st' => if x = 0 ∨ x = 1 then gi_kh (pc + 1) lv st' (gi_pi h o 2 i x) else none
      | _ => none
    | .lastore => match st with
      | .long x :: .int i :: .ref o :: st' => gi_kh (pc + 1) lv st' (gi_pl h o i x)
      | _ => none
    | .aastore => match st with
      | .ref x :: .int i :: .ref o :: st' => gi_kh (pc + 1) lv st' (gi_pq h o i x a)
      | _ => none
    | .arraylength => match st with
      | .ref o :: st' => match gi_an h o a with
        | none => none
        | some n => gi_k (pc + 1) lv (.int (Int32.ofNat n) :: st') h
      | _ => none
    | .newarray _ => match st with
      | .int n :: st' => if ¬ n < 0 ∧ n.toNatClampNeg ≤ 1000 then gi_k (pc + 2) lv (.ref h.length :: st') (h ++ [gi_na a n.toNatClampNeg]) else none
      | _ => none
    | .anewarray _ => match st with
      | .int n :: st' => if ¬ n < 0 ∧ n.toNatClampNeg ≤ 1000 then gi_k (pc + 3) lv (.ref h.length :: st') (h ++ [gi_na 3 n.toNatClampNeg]) else none
      | _ => none
    | .new _ => gi_k (pc + 3) lv (.ref h.length :: st) (h ++ [.inr (a, df a)])
    | .ireturn => match st with
      | [.int x] => match gi_rok ret x with
        | true => some (.inr (.inl (some (.int x))))
        | false => none
      | _ => none
    | .lreturn => match ret, st with
      | some .long, [.long x] => some (.inr (.inl (some (.long x))))
      | _, _ => none
    | .return_ => match ret, st with
      | none, [] => some (.inr (.inl none))
      | _, _ => none
    | .invokestatic _ => match Nat.beq a 999 with
      | true => match st with
        | [.int n, .int dp, .ref d, .int sp, .ref s] => gi_kh (pc + 3) lv [] (gi_cp h s sp d dp n)
        | _ => none
      | false => gi_call a b st
    | .invokevirtual _ => match v with
      | .ref ci => gi_callV a b ci st h
      | _ => none
    | .invokespecial _ => match Nat.beq a 998 with
      | true => match st with
        | [.ref _] => gi_k (pc + 3) lv [] h
        | _ => none
      | false => match gi_tk b [] st with
        | none => none
        | some (as, _) => match gi_hd as with
          | none => none
          | some _ => gi_call a b st
    | _ => none
/-- a callee's first locals -/
def gi_en0 : List Value → gi_Lv
  | [] => []
  | .long x :: t => some (.long x) :: none :: gi_en0 t
  | .double x :: t => some (.double x) :: none :: gi_en0 t
  | v :: t => some v :: gi_en0 t
def gi_pad : Nat → gi_Lv → gi_Lv
  | 0, _ => []
  | n + 1, [] => none :: gi_pad n []
  | n + 1, o :: t => o :: gi_pad n t
def gi_en (n : Nat) (as : List Value) : gi_Lv := gi_pad n (gi_en0 as)
/-- so many instructions at most -/
def gi_ex (pr : Nat → gi_M) (df : Nat → List Value) : Nat → gi_M → Nat → gi_Lv → List Value → gi_H → Option (Option Value × gi_H)
  | 0, _, _, _, _, _ => none
  | n + 1, M, pc, lv, st, h => match gi_look (gi_tab M) pc with
    | none => none
    | some r => match gi_go df (gi_ret M) r pc lv st h with
      | none => none
      | some (.inl (pc', lv', st', h')) => gi_ex pr df n M pc' lv' st' h'
      | some (.inr (.inl rv)) => some (rv, h)
      | some (.inr (.inr (j, as, rest))) => match Nat.ble (gi_en0 as).length (gi_maxL (pr j)) with
        | false => none
        | true => match gi_ex pr df n (pr j) 0 (gi_en (gi_maxL (pr j)) as) [] h with
          | none => none
          | some (w, h') => gi_ex pr df n M (pc + 3) lv (w.toList ++ rest) h'
end
section
abbrev gi_cls : List vw_C := [(RX0, TX0, 15), (RX1, TX1, 6), (RX2, TX2, 2), (RX3, TX3, 2), (RX4, TX4, 1), (RX5, TX5, 6), (RX6, TX6, 16)]
def gi_dfX0 : List Value := [.int 0, .int 0, .int 0, .int 0, .int 0, .int 0, .null, .null, .null, .null, .null, .null, .null, .null, .null]
def gi_dfX1 : List Value := [.null, .int 0, .int 0, .int 0, .int 0, .int 0]
def gi_dfX2 : List Value := [.null, .null]
def gi_dfX3 : List Value := [.int 0, .null]
def gi_dfX4 : List Value := [.null]
def gi_dfX5 : List Value := [.null, .null, .null, .null, .null, .null]
def gi_dfX6 : List Value := [.null, .null, .int 0, .null, .int 0, .null, .int 0, .int 0, .int 0, .int 0, .int 0, .long 0, .null, .null, .null, .null]
def gi_df : Nat → List Value := fun c => match c with
  | 0 => gi_dfX0
  | 1 => gi_dfX1
  | 2 => gi_dfX2
  | 3 => gi_dfX3
  | 4 => gi_dfX4
  | 5 => gi_dfX5
  | _ => gi_dfX6
end
section
/-! FROM THE INTERPRETER TO THE MACHINE, 1: words, tables, the picture of an abstract heap -/
def gi_AW : List Jvm.Cond := lw_tbl.filter goodWord
def gi_in (w : Jvm.Cond) : Bool := decide (w ∈ lw_tbl) && goodWord w
theorem gi_in_mem {w : Jvm.Cond} (h : gi_in w = true) : w ∈ gi_AW := by
  simp only [gi_in, Bool.and_eq_true, decide_eq_true_eq] at h
  exact List.mem_filter.mpr h
theorem gi_AW_good {w : Jvm.Cond} (h : w ∈ gi_AW) : (w.onTables && w.keeps) = true ∨ ∃ ty, w = .arrayClass ty := good_of_word (List.mem_filter.mp h).2
def gi_isN : Jvm.Cond → Bool
  | .methodLinkNest .. => true
  | _ => false
def gi_nest : List Jvm.Cond := lw_tbl.filter gi_isN
def gi_inN (w : Jvm.Cond) : Bool := decide (w ∈ lw_tbl) && gi_isN w
theorem gi_inN_mem {w : Jvm.Cond} (h : gi_inN w = true) : w ∈ gi_nest := by
  simp only [gi_inN, Bool.and_eq_true, decide_eq_true_eq] at h
  exact List.mem_filter.mpr h
abbrev gi_Bk : String := "AdmiralGuinea$Book"
def gi_NW (U : State) : Prop := (∀ w ∈ gi_nest, va_Nw w U) ∧ va_AO gi_Bk U
theorem gi_NW.warm {s U : State} (hW : s.WarmedH U.vm) (h : gi_NW s) : gi_NW U := by
  refine ⟨fun w hw => ?_, va_AO.moved hW.alike h.2⟩
  have h1 := h.1 w hw
  have h2 := (List.mem_filter.mp hw).2
  cases w with
  | methodLinkNest a i x q => exact va_Nw.warmM hW h1
  | _ => cases h2
theorem gi_NW.same {s U : State} (h : s.vm = U.vm) (hN : gi_NW s) : gi_NW U := by
  refine ⟨fun w hw => ?_, va_AO.moved (by rw [h]; exact Vm.Alike.refl _) hN.2⟩
  have h1 := hN.1 w hw
  have h2 := (List.mem_filter.mp hw).2
  cases w with
  | methodLinkNest a i x q => exact va_Nw.same rfl h h1
  | _ => cases h2
def gi_tys : Nat → Nat → FieldType := fun c => match c with
  | 0 => tyX0
  | 1 => tyX1
  | 2 => tyX2
  | 3 => tyX3
  | 4 => tyX4
  | 5 => tyX5
  | _ => tyX6
theorem gi_cls_cases {P : Nat → vw_C → Prop} (h0 : P 0 (RX0, TX0, 15)) (h1 : P 1 (RX1, TX1, 6)) (h2 : P 2 (RX2, TX2, 2)) (h3 : P 3 (RX3, TX3, 2)) (h4 : P 4 (RX4, TX4, 1)) (h5 : P 5 (RX5, TX5, 6)) (h6 : P 6 (RX6, TX6, 16)) : ∀ (c : Nat) (q : vw_C), gi_cls[c]? = some q → P c q := by
  intro c q h
  match c, h with
  | 0, h => cases h; exact h0
  | 1, h => cases h; exact h1
  | 2, h => cases h; exact h2
  | 3, h => cases h; exact h3
  | 4, h => cases h; exact h4
  | 5, h => cases h; exact h5
  | 6, h => cases h; exact h6
  | c + 7, h => simp [gi_cls] at h
theorem gi_tyok : ∀ (c : Nat) (q : vw_C), gi_cls[c]? = some q → ∀ k, k < q.2.2 → parseFieldDescriptor (q.2.1 k).2.2.1 = some (gi_tys c k) := gi_cls_cases tyX0_ok tyX1_ok tyX2_ok tyX3_ok tyX4_ok tyX5_ok tyX6_ok
theorem gi_nmok : ∀ (c : Nat) (q : vw_C), gi_cls[c]? = some q → ∀ a, a < q.2.2 → ∀ b, b < q.2.2 → a ≠ b → (q.2.1 a).2.1 ≠ (q.2.1 b).2.1 := gi_cls_cases nmX0 nmX1 nmX2 nmX3 nmX4 nmX5 nmX6
theorem gi_wok_of {l : List Jvm.Cond} (h : l.all gi_in = true) : ∀ w ∈ l, w ∈ gi_AW := fun w hw => gi_in_mem (List.all_eq_true.mp h w hw)
theorem gi_win : ∀ (c : Nat) (q : vw_C), gi_cls[c]? = some q → ∀ w ∈ u_ws q.1 q.2.1 q.2.2, w ∈ gi_AW := gi_cls_cases (gi_wok_of (by decide +kernel)) (gi_wok_of (by decide +kernel)) (gi_wok_of (by decide +kernel)) (gi_wok_of (by decide +kernel)) (gi_wok_of (by decide +kernel)) (gi_wok_of (by decide +kernel)) (gi_wok_of (by decide +kernel))
def gi_noref : List Value → Bool := fun l => l.all fun v => match v with
  | .ref _ => false
  | _ => true
theorem gi_dfok : ∀ (c : Nat) (q : vw_C), gi_cls[c]? = some q → (∀ j, j < q.2.2 → defaultValue (gi_tys c j) = vp_V (gi_df c) j) ∧ gi_noref (gi_df c) = true := gi_cls_cases (by decide +kernel) (by decide +kernel) (by decide +kernel) (by decide +kernel) (by decide +kernel) (by decide +kernel) (by decide +kernel)
/-- how many fields -/
def gi_N (c : Nat) : Nat := match gi_cls[c]? with
  | some q => q.2.2
  | none => 0
/-! the picture -/
def gc_v (ad : Nat → Nat) : Value → Value
  | .ref k => .ref (ad k)
  | v => v
def gc_a (ad : Nat → Nat) : vp_A → vp_A
  | (n, .inr (.inr (.inr (.inr f)))) => (n, .inr (.inr (.inr (.inr (fun j => (f j).map ad)))))
  | x => x
def gc_e (ct : Nat → ClassId) (ad : Nat → Nat) : va_E → va_E
  | .inl (t, x) => .inl (ct t, gc_a ad x)
  | .inr (c, fs) => .inr (c, fs.map (gc_v ad))
def gc_wf (ct : Nat → ClassId) (ad : Nat → Nat) : Nat → gi_H → va_W
  | _, [] => []
  | k, e :: t => (ad k, gc_e ct ad e) :: gc_wf ct ad (k + 1) t
def gc_w (ct : Nat → ClassId) (ad : Nat → Nat) (h : gi_H) : va_W := gc_wf ct ad 1 h.tail
theorem gc_cat (ad : Nat → Nat) (v : Value) : (gc_v ad v).category = v.category := by cases v <;> rfl
theorem gc_wf_get (ct : Nat → ClassId) (ad : Nat → Nat) : ∀ (l : gi_H) (k i : Nat), (gc_wf ct ad k l)[i]? = (l[i]?).map (fun e => (ad (k + i), gc_e ct ad e)) := by
  intro l
  induction l with
  | nil => intro k i; simp [gc_wf]
  | cons e t ih =>
    intro k i
    cases i with
    | zero => simp [gc_wf]
    | succ i =>
      simp only [gc_wf, List.getElem?_cons_succ]
      rw [ih, show k + 1 + i = k + (i + 1) by omega]
theorem gc_wf_set (ct : Nat → ClassId) (ad : Nat → Nat) (x : va_E) : ∀ (l : gi_H) (k i : Nat), gc_wf ct ad k (l.set i x) = (gc_wf ct ad k l).set i (ad (k + i), gc_e ct ad x) := by
  intro l
  induction l with
  | nil => intro k i; simp [gc_wf]
  | cons e t ih =>
    intro k i
    cases i with
    | zero => simp [gc_wf]
    | succ i =>
      simp only [gc_wf, List.set_cons_succ]
      rw [ih, show k + 1 + i = k + (i + 1) by omega]
theorem gc_wf_app (ct : Nat → ClassId) (ad : Nat → Nat) (x : va_E) : ∀ (l : gi_H) (k : Nat), gc_wf ct ad k (l ++ [x]) = gc_wf ct ad k l ++ [(ad (k + l.length), gc_e ct ad x)] := by
  intro l
  induction l with
  | nil => intro k; simp [gc_wf]
  | cons e t ih =>
    intro k
    simp only [List.cons_append, gc_wf, List.length_cons]
    rw [ih, show k + 1 + t.length = k + (t.length + 1) by omega]
/-- place 0 is the script -/
def gi_h0 (h : gi_H) : Prop := (∃ x, h[0]? = some (.inl (9, x))) ∧ ∀ (o : Nat) (x : vp_A), h[o]? = some (.inl (9, x)) → o = 0
theorem gi_h0_ne {h : gi_H} (h0 : gi_h0 h) {o : Nat} {e : va_E} (he : h[o]? = some e) (hn : ∀ x, e ≠ .inl (9, x)) : ∃ k, o = k + 1 := by
  cases o with
  | zero =>
    obtain ⟨⟨x, hx⟩, -⟩ := h0
    rw [hx] at he
    exact absurd (Option.some.inj he).symm (hn x)
  | succ k => exact ⟨k, rfl⟩
theorem gc_w_get {ct : Nat → ClassId} {ad : Nat → Nat} {h : gi_H} {k : Nat} {e : va_E} (he : h[k + 1]? = some e) : (gc_w ct ad h)[k]? = some (ad (k + 1), gc_e ct ad e) := by
  unfold gc_w
  rw [gc_wf_get]
  cases h with
  | nil => simp at he
  | cons x t =>
    rw [List.getElem?_cons_succ] at he
    rw [List.tail_cons, he, show 1 + k = k + 1 by omega]
    rfl
theorem gc_w_set {ct : Nat → ClassId} {ad : Nat → Nat} {h : gi_H} {k : Nat} {x : va_E} : gc_w ct ad (h.set (k + 1) x) = (gc_w ct ad h).set k (ad (k + 1), gc_e ct ad x) := by
  unfold gc_w
  cases h with
  | nil => simp [gc_wf]
  | cons y t =>
    rw [List.set_cons_succ, List.tail_cons, List.tail_cons, gc_wf_set, show 1 + k = k + 1 by omega]
/-! references are in the heap -/
def gi_wv (n : Nat) : Value → Prop
  | .ref k => k < n
  | _ => True
def gi_ws (n : Nat) (st : List Value) : Prop := ∀ v ∈ st, gi_wv n v
def gi_wl (n : Nat) (lv : gi_Lv) : Prop := ∀ i v, gi_ld lv i = some v → gi_wv n v
def gi_we (n : Nat) : va_E → Prop
  | .inl (_, _, .inr (.inr (.inr (.inr f)))) => ∀ j k, f j = some k → k < n
  | .inl _ => True
  | .inr (_, fs) => gi_ws n fs
def gi_wh (h : gi_H) : Prop := ∀ (o : Nat) (e : va_E), h[o]? = some e → gi_we h.length e
theorem gi_wv.mono {n m : Nat} (hnm : n ≤ m) {v : Value} (h : gi_wv n v) : gi_wv m v := by
  cases v with
  | ref k => exact Nat.lt_of_lt_of_le h hnm
  | _ => trivial
theorem gi_ws.mono {n m : Nat} (hnm : n ≤ m) {st : List Value} (h : gi_ws n st) : gi_ws m st := fun v hv => (h v hv).mono hnm
theorem gi_wl.mono {n m : Nat} (hnm : n ≤ m) {lv : gi_Lv} (h : gi_wl n lv) : gi_wl m lv := fun i v hv => (h i v hv).mono hnm
theorem gi_we.mono {n m : Nat} (hnm : n ≤ m) {e : va_E} (h : gi_we n e) : gi_we m e := by
  match e, h with
  | .inl (_, _, .inr (.inr (.inr (.inr f)))), h => exact fun j k hk => Nat.lt_of_lt_of_le (h j k hk) hnm
  | .inl (_, _, .inl _), _ => trivial
  | .inl (_, _, .inr (.inl _)), _ => trivial
  | .inl (_, _, .inr (.inr (.inl _))), _ => trivial
  | .inl (_, _, .inr (.inr (.inr (.inl _)))), _ => trivial
  | .inr (_, fs), h => exact gi_ws.mono hnm h
theorem gc_v_ag {ad ad' : Nat → Nat} {n : Nat} (ag : ∀ k, k < n → ad' k = ad k) {v : Value} (h : gi_wv n v) : gc_v ad' v = gc_v ad v := by
  cases v with
  | ref k => exact congrArg Value.ref (ag k h)
  | _ => rfl
theorem gc_s_ag {ad ad' : Nat → Nat} {n : Nat} (ag : ∀ k, k < n → ad' k = ad k) {st : List Value} (h : gi_ws n st) : st.map (gc_v ad') = st.map (gc_v ad) := List.map_congr_left fun v hv => gc_v_ag ag (h v hv)
theorem gc_e_ag {ct : Nat → ClassId} {ad ad' : Nat → Nat} {n : Nat} (ag : ∀ k, k < n → ad' k = ad k) {e : va_E} (h : gi_we n e) : gc_e ct ad' e = gc_e ct ad e := by
  match e, h with
  | .inl (t, m, .inr (.inr (.inr (.inr f)))), h =>
    simp only [gc_e, gc_a]
    have : (fun j => (f j).map ad') = (fun j => (f j).map ad) := by
      funext j
      cases hf : f j with
      | none => rfl
      | some k => exact congrArg some (ag k (h j k hf))
    rw [this]
  | .inl (_, _, .inl _), _ => rfl
  | .inl (_, _, .inr (.inl _)), _ => rfl
  | .inl (_, _, .inr (.inr (.inl _))), _ => rfl
  | .inl (_, _, .inr (.inr (.inr (.inl _)))), _ => rfl
  | .inr (c, fs), h =>
    simp only [gc_e]
    rw [gc_s_ag ag h]
theorem gc_wf_ag {ct : Nat → ClassId} {ad ad' : Nat → Nat} {n : Nat} (ag : ∀ k, k < n → ad' k = ad k) : ∀ (l : gi_H) (k : Nat), (∀ e ∈ l, gi_we n e) → k + l.length ≤ n → gc_wf ct ad' k l = gc_wf ct ad k l := by
  intro l
  induction l with
  | nil => intro k _ _; rfl
  | cons e t ih =>
    intro k hw hk
    simp only [List.length_cons] at hk
    simp only [gc_wf]
    rw [ag k (by omega), gc_e_ag ag (hw e List.mem_cons_self), ih (k + 1) (fun x hx => hw x (List.mem_cons_of_mem _ hx)) (by omega)]
theorem gi_wh_mem {h : gi_H} (w : gi_wh h) : ∀ e ∈ h, gi_we h.length e := fun e he => by
  obtain ⟨o, ho⟩ := List.getElem?_of_mem he
  exact w o e ho
/-- one more cell at the address q -/
theorem gc_w_app {ct : Nat → ClassId} {ad : Nat → Nat} {h : gi_H} (h0 : gi_h0 h) (w : gi_wh h) (q : Nat) {x : va_E} {y : va_E} (hx : gc_e ct (va_up ad h.length q) x = y) : gc_w ct (va_up ad h.length q) (h ++ [x]) = gc_w ct ad h ++ [(q, y)] := by
  have ag : ∀ k, k < h.length → va_up ad h.length q k = ad k := fun k hk => by simp [va_up, Nat.ne_of_lt hk]
  unfold gc_w
  cases h with
  | nil => obtain ⟨⟨_, hh⟩, -⟩ := h0; simp at hh
  | cons e t =>
    rw [List.cons_append, List.tail_cons, List.tail_cons, gc_wf_app, gc_wf_ag ag t 1 (fun z hz => gi_wh_mem w z (List.mem_cons_of_mem _ hz)) (by simp; omega), hx]
    congr 3
    simp [va_up, Nat.add_comm]
/-! slots -/
def gi_sl : va_E → Nat
  | .inl (_, n, _) => n
  | .inr (c, _) => gi_N c
def gi_slots : gi_H → Nat
  | [] => 0
  | e :: t => gi_sl e + gi_slots t
theorem gi_slots_app (h : gi_H) (x : va_E) : gi_slots (h ++ [x]) = gi_slots h + gi_sl x := by
  induction h with
  | nil => simp [gi_slots]
  | cons e t ih => simp only [List.cons_append, gi_slots, ih]; omega
theorem gi_slots_set {x e : va_E} (hx : gi_sl x = gi_sl e) : ∀ {h : gi_H} {o : Nat}, h[o]? = some e → gi_slots (h.set o x) = gi_slots h := by
  intro h
  induction h with
  | nil => intro o ho; simp at ho
  | cons y t ih =>
    intro o ho
    cases o with
    | zero =>
      simp only [List.getElem?_cons_zero, Option.some.injEq] at ho
      simp only [List.set_cons_zero, gi_slots, hx, ho]
    | succ o =>
      rw [List.getElem?_cons_succ] at ho
      simp only [List.set_cons_succ, gi_slots, ih ho]
/-! locals -/
def gi_L (ls : Array Slot) (nL : Nat) (ad : Nat → Nat) (lv : gi_Lv) : Prop := lv.length = nL ∧ ls.size = nL ∧ lv_wf ls ∧ ∀ i v, gi_ld lv i = some v → ls[i]? = some (.val (gc_v ad v))
def gi_ent (ad : Nat → Nat) (lv : gi_Lv) : List (Nat × Value) := (List.range lv.length).filterMap (fun i => (gi_ld lv i).map (fun v => (i, gc_v ad v)))
theorem gi_ld_lt : ∀ {lv : gi_Lv} {i : Nat} {v : Value}, gi_ld lv i = some v → i < lv.length := by
  intro lv
  induction lv with
  | nil => intro i v h; cases i <;> simp [gi_ld] at h
  | cons o t ih =>
    intro i v h
    cases i with
    | zero => simp
    | succ i => simp only [gi_ld] at h; simp only [List.length_cons]; exact Nat.succ_lt_succ (ih h)
theorem gi_ent_mem {ad : Nat → Nat} {lv : gi_Lv} {i : Nat} {v : Value} (h : gi_ld lv i = some v) : (i, gc_v ad v) ∈ gi_ent ad lv := by
  unfold gi_ent
  refine List.mem_filterMap.mpr ⟨i, List.mem_range.mpr (gi_ld_lt h), ?_⟩
  rw [h]
  rfl
theorem gi_L.has {ls : Array Slot} {nL : Nat} {ad : Nat → Nat} {lv : gi_Lv} (h : gi_L ls nL ad lv) : lv_has ls nL (gi_ent ad lv) := by
  refine ⟨h.2.1, h.2.2.1, fun q hq => ?_⟩
  obtain ⟨i, -, hi⟩ := List.mem_filterMap.mp hq
  cases hv : gi_ld lv i with
  | none => rw [hv] at hi; cases hi
  | some v =>
    rw [hv] at hi
    cases hi
    exact h.2.2.2 i v hv
theorem gi_s1_spec : ∀ {lv : gi_Lv} {i : Nat} {v : Value} {lv' : gi_Lv}, gi_s1 lv i v = some lv' → lv'.length = lv.length ∧ i < lv.length ∧ ∀ j w, gi_ld lv' j = some w → (j = i ∧ w = v) ∨ (j ≠ i ∧ gi_ld lv j = some w ∧ ¬ (j + 1 = i ∧ w.category = 2)) := by
  intro lv
  induction lv with
  | nil => intro i v lv' h; cases i <;> simp [gi_s1] at h
  | cons o t ih =>
    intro i v lv' h
    match i, h with
    | 0, h =>
      simp only [gi_s1, Option.some.injEq] at h
      subst h
      refine ⟨rfl, by simp, fun j w hj => ?_⟩
      cases j with
      | zero => simp only [gi_ld, Option.some.injEq] at hj; exact Or.inl ⟨rfl, hj.symm⟩
      | succ j => simp only [gi_ld] at hj; exact Or.inr ⟨by omega, hj, by omega⟩
    | 1, h =>
      cases t with
      | nil => simp [gi_s1] at h
      | cons o2 t2 =>
        simp only [gi_s1, Option.some.injEq] at h
        subst h
        refine ⟨rfl, by simp, fun j w hj => ?_⟩
        match j, hj with
        | 0, hj =>
          simp only [gi_ld] at hj
          refine Or.inr ⟨by omega, ?_, fun hc => ?_⟩
          · cases o with
            | none => cases hj
            | some z => cases z <;> simp [gi_cl] at hj <;> simp [gi_ld, hj]
          · cases o with
            | none => cases hj
            | some z => cases z <;> simp [gi_cl] at hj <;> (subst hj; simp [Value.category] at hc)
        | 1, hj => simp only [gi_ld, Option.some.injEq] at hj; exact Or.inl ⟨rfl, hj.symm⟩
        | j + 2, hj => simp only [gi_ld] at hj; exact Or.inr ⟨by omega, hj, by omega⟩
    | n + 2, h =>
      simp only [gi_s1] at h
      cases h1 : gi_s1 t (n + 1) v with
      | none => rw [h1] at h; cases h
      | some t' =>
        rw [h1] at h
        simp only [Option.some.injEq] at h
        subst h
        obtain ⟨a1, a2, a3⟩ := ih h1
        refine ⟨by simp [a1], by simp; omega, fun j w hj => ?_⟩
        cases j with
        | zero => simp only [gi_ld] at hj; exact Or.inr ⟨by omega, hj, by omega⟩
        | succ j =>
          simp only [gi_ld] at hj
          rcases a3 j w hj with ⟨b1, b2⟩ | ⟨b1, b2, b3⟩
          · exact Or.inl ⟨by omega, b2⟩
          · exact Or.inr ⟨by omega, b2, fun hc => b3 ⟨by omega, hc.2⟩⟩
theorem gi_s2_spec : ∀ {lv : gi_Lv} {i : Nat} {v : Value} {lv' : gi_Lv}, gi_s2 lv i v = some lv' → lv'.length = lv.length ∧ i + 1 < lv.length ∧ ∀ j w, gi_ld lv' j = some w → (j = i ∧ w = v) ∨ (j ≠ i ∧ j ≠ i + 1 ∧ gi_ld lv j = some w ∧ ¬ (j + 1 = i ∧ w.category = 2)) := by
  intro lv
  induction lv with
  | nil => intro i v lv' h; cases i <;> simp [gi_s2] at h
  | cons o t ih =>
    intro i v lv' h
    match i, h with
    | 0, h =>
      cases t with
      | nil => simp [gi_s2] at h
      | cons o2 t2 =>
        simp only [gi_s2, Option.some.injEq] at h
        subst h
        refine ⟨rfl, by simp, fun j w hj => ?_⟩
        match j, hj with
        | 0, hj => simp only [gi_ld, Option.some.injEq] at hj; exact Or.inl ⟨rfl, hj.symm⟩
        | 1, hj => simp [gi_ld] at hj
        | j + 2, hj => simp only [gi_ld] at hj; exact Or.inr ⟨by omega, by omega, hj, by omega⟩
    | 1, h =>
      match t, h with
      | [], h => simp [gi_s2] at h
      | [_], h => simp [gi_s2] at h
      | o2 :: o3 :: t2, h =>
        simp only [gi_s2, Option.some.injEq] at h
        subst h
        refine ⟨rfl, by simp, fun j w hj => ?_⟩
        match j, hj with
        | 0, hj =>
          simp only [gi_ld] at hj
          refine Or.inr ⟨by omega, by omega, ?_, fun hc => ?_⟩
          · cases o with
            | none => cases hj
            | some z => cases z <;> simp [gi_cl] at hj <;> simp [gi_ld, hj]
          · cases o with
            | none => cases hj
            | some z => cases z <;> simp [gi_cl] at hj <;> (subst hj; simp [Value.category] at hc)
        | 1, hj => simp only [gi_ld, Option.some.injEq] at hj; exact Or.inl ⟨rfl, hj.symm⟩
        | 2, hj => simp [gi_ld] at hj
        | j + 3, hj => simp only [gi_ld] at hj; exact Or.inr ⟨by omega, by omega, hj, by omega⟩
    | n + 2, h =>
      simp only [gi_s2] at h
      cases h1 : gi_s2 t (n + 1) v with
      | none => rw [h1] at h; cases h
      | some t' =>
        rw [h1] at h
        simp only [Option.some.injEq] at h
        subst h
        obtain ⟨a1, a2, a3⟩ := ih h1
        refine ⟨by simp [a1], by simp; omega, fun j w hj => ?_⟩
        cases j with
        | zero => simp only [gi_ld] at hj; exact Or.inr ⟨by omega, by omega, hj, by omega⟩
        | succ j =>
          simp only [gi_ld] at hj
          rcases a3 j w hj with ⟨b1, b2⟩ | ⟨b1, b2, b3, b4⟩
          · exact Or.inl ⟨by omega, b2⟩
          · exact Or.inr ⟨by omega, by omega, b3, fun hc => b4 ⟨by omega, hc.2⟩⟩
theorem gi_L.st1 {ls ls' : Array Slot} {nL i : Nat} {ad : Nat → Nat} {lv lv' : gi_Lv} {v : Value} (h : gi_L ls nL ad lv) (hs : gi_s1 lv i v = some lv') (h' : lv_has ls' nL ((i, gc_v ad v) :: (gi_ent ad lv).filter (fun q => !(q.1 == i) && !(q.1 + 1 == i && q.2.category == 2)))) : gi_L ls' nL ad lv' := by
  obtain ⟨a1, a2, a3⟩ := gi_s1_spec hs
  refine ⟨a1.trans h.1, h'.1, h'.2.1, fun j w hj => ?_⟩
  refine h'.2.2 (j, gc_v ad w) ?_
  rcases a3 j w hj with ⟨b1, b2⟩ | ⟨b1, b2, b3⟩
  · subst b1; subst b2; exact List.mem_cons_self
  · refine List.mem_cons_of_mem _ (List.mem_filter.mpr ⟨gi_ent_mem b2, ?_⟩)
    simp only [gc_cat]
    by_cases hji : j + 1 = i
    · have hc : ¬ w.category = 2 := fun z => b3 ⟨hji, z⟩
      simp [b1, hc]
    · simp [b1, hji]
theorem gi_L.st2 {ls ls' : Array Slot} {nL i : Nat} {ad : Nat → Nat} {lv lv' : gi_Lv} {v : Value} (h : gi_L ls nL ad lv) (hs : gi_s2 lv i v = some lv') (h' : lv_has ls' nL ((i, gc_v ad v) :: (gi_ent ad lv).filter (fun q => !(q.1 == i) && (!(q.1 == i + 1) && !(q.1 + 1 == i && q.2.category == 2))))) : gi_L ls' nL ad lv' := by
  obtain ⟨a1, a2, a3⟩ := gi_s2_spec hs
  refine ⟨a1.trans h.1, h'.1, h'.2.1, fun j w hj => ?_⟩
  refine h'.2.2 (j, gc_v ad w) ?_
  rcases a3 j w hj with ⟨b1, b2⟩ | ⟨b1, b2, b3, b4⟩
  · subst b1; subst b2; exact List.mem_cons_self
  · refine List.mem_cons_of_mem _ (List.mem_filter.mpr ⟨gi_ent_mem b3, ?_⟩)
    simp only [gc_cat]
    by_cases hji : j + 1 = i
    · have hc : ¬ w.category = 2 := fun z => b4 ⟨hji, z⟩
      simp [b1, b2, hc]
    · simp [b1, b2, hji]
theorem gi_L.ag {ls : Array Slot} {nL n : Nat} {ad ad' : Nat → Nat} {lv : gi_Lv} (h : gi_L ls nL ad lv) (ag : ∀ k, k < n → ad' k = ad k) (hw : gi_wl n lv) : gi_L ls nL ad' lv := ⟨h.1, h.2.1, h.2.2.1, fun i v hv => by rw [gc_v_ag ag (hw i v hv)]; exact h.2.2.2 i v hv⟩
/-- a method's first locals -/
theorem gi_en0_args (ad : Nat → Nat) : ∀ (as : List Value) (i j : Nat) (v : Value), gi_ld (gi_en0 as) j = some v → (i + j, gc_v ad v) ∈ lv_args i (as.map (gc_v ad)) := by
  intro as
  induction as with
  | nil => intro i j v h; cases j <;> simp [gi_en0, gi_ld] at h
  | cons a t ih =>
    intro i j v h
    have one : ∀ (hc : a.category = 1) (he : gi_en0 (a :: t) = some a :: gi_en0 t), (i + j, gc_v ad v) ∈ lv_args i ((a :: t).map (gc_v ad)) := by
      intro hc he
      rw [he] at h
      simp only [List.map_cons, lv_args, gc_cat, hc]
      cases j with
      | zero => simp only [gi_ld, Option.some.injEq] at h; subst h; exact List.mem_cons_self
      | succ j =>
        simp only [gi_ld] at h
        have := ih (i + 1) j v h
        refine List.mem_cons_of_mem _ ?_
        rw [if_neg (by decide), show i + (j + 1) = i + 1 + j by omega]
        exact this
    have two : ∀ (hc : a.category = 2) (he : gi_en0 (a :: t) = some a :: none :: gi_en0 t), (i + j, gc_v ad v) ∈ lv_args i ((a :: t).map (gc_v ad)) := by
      intro hc he
      rw [he] at h
      simp only [List.map_cons, lv_args, gc_cat, hc]
      match j, h with
      | 0, h => simp only [gi_ld, Option.some.injEq] at h; subst h; exact List.mem_cons_self
      | 1, h => simp [gi_ld] at h
      | j + 2, h =>
        simp only [gi_ld] at h
        have := ih (i + 2) j v h
        refine List.mem_cons_of_mem _ ?_
        rw [if_pos trivial, show i + (j + 2) = i + 2 + j by omega]
        exact this
    cases a with
    | long x => exact two rfl rfl
    | double x => exact two rfl rfl
    | int x => exact one rfl rfl
    | float x => exact one rfl rfl
    | null => exact one rfl rfl
    | ref x => exact one rfl rfl
    | retAddr x => exact one rfl rfl
theorem gi_pad_len : ∀ (n : Nat) (l : gi_Lv), (gi_pad n l).length = n := by
  intro n
  induction n with
  | zero => intro l; rfl
  | succ n ih => intro l; cases l <;> simp [gi_pad, ih]
theorem gi_pad_ld : ∀ (n : Nat) (l : gi_Lv) (i : Nat) (v : Value), gi_ld (gi_pad n l) i = some v → gi_ld l i = some v := by
  intro n
  induction n with
  | zero => intro l i v h; cases i <;> simp [gi_pad, gi_ld] at h
  | succ n ih =>
    intro l i v h
    cases l with
    | nil =>
      cases i with
      | zero => simp [gi_pad, gi_ld] at h
      | succ i => simp only [gi_pad, gi_ld] at h; have := ih [] i v h; cases i <;> simp [gi_ld] at this
    | cons o t =>
      cases i with
      | zero => simpa [gi_pad, gi_ld] using h
      | succ i => simp only [gi_pad, gi_ld] at h ⊢; exact ih t i v h
theorem gi_en0_len (ad : Nat → Nat) : ∀ as : List Value, (lg_sl (as.map (gc_v ad))).length = (gi_en0 as).length := by
  intro as
  induction as with
  | nil => rfl
  | cons a t ih =>
    have e : lg_sl ((a :: t).map (gc_v ad)) = (if (gc_v ad a).category = 2 then [Slot.val (gc_v ad a), .second] else [.val (gc_v ad a)]) ++ lg_sl (t.map (gc_v ad)) := rfl
    rw [e, List.length_append, ih]
    cases a <;> simp [gi_en0, gc_v, Value.category] <;> omega
theorem gi_L.entry {as : List Value} {n : Nat} (ad : Nat → Nat) (hl : (gi_en0 as).length ≤ n) : gi_L ((lg_sl (as.map (gc_v ad)) ++ List.replicate (n - (lg_sl (as.map (gc_v ad))).length) Slot.unset).toArray) n ad (gi_en n as) := by
  have h := lv_entry (as.map (gc_v ad)) (n := n) (by rw [gi_en0_len]; exact hl)
  refine ⟨gi_pad_len _ _, h.1, h.2.1, fun i v hv => ?_⟩
  have := gi_en0_args ad as 0 i v (gi_pad_ld _ _ _ _ hv)
  rw [Nat.zero_add] at this
  exact h.2.2 (i, gc_v ad v) this
theorem gi_wl.entry {as : List Value} {n k : Nat} (h : gi_ws k as) : gi_wl k (gi_en n as) := by
  intro i v hv
  have h1 := gi_pad_ld _ _ _ _ hv
  clear hv
  induction as generalizing i with
  | nil => cases i <;> simp [gi_en0, gi_ld] at h1
  | cons a t ih =>
    have ht : gi_ws k t := fun z hz => h z (List.mem_cons_of_mem _ hz)
    have ha := h a List.mem_cons_self
    have key : (v = a) ∨ ∃ i', gi_ld (gi_en0 t) i' = some v := by
      cases a <;> (match i, h1 with
        | 0, h1 => simp only [gi_en0, gi_ld, Option.some.injEq] at h1; exact Or.inl h1.symm
        | 1, h1 => simp only [gi_en0, gi_ld] at h1; first | exact Or.inr ⟨_, h1⟩ | cases h1
        | i + 2, h1 => simp only [gi_en0, gi_ld] at h1; first | exact Or.inr ⟨_, h1⟩ | exact Or.inr ⟨i + 1, h1⟩)
    rcases key with rfl | ⟨i', hi'⟩
    · exact ha
    · exact ih ht i' hi'
end
section
/-! FROM THE INTERPRETER TO THE MACHINE, 2: what is checked of a table; what every instruction keeps -/
def gi_len (ins : Instr) (b : Nat) : Nat := match ins with
  | .bipush _ | .ldc _ | .iload _ | .lload _ | .istore _ | .lstore _ | .newarray _ => 2
  | .sipush _ | .ldc_w _ | .ldc2_w _ | .iinc _ _ | .goto _ | .ifCond _ _ | .if_icmp _ _ | .ifnonnull _ | .getfield _ | .putfield _ | .new _ | .anewarray _ | .invokestatic _ | .invokevirtual _ | .invokespecial _ => 3
  | .tableswitch .. | .lookupswitch .. => b
  | _ => 1
/-- a kind fits a field's type -/
def gi_kok : Value → FieldType → Bool
  | .int _, .int => true
  | .long _, .long => true
  | .float _, .boolean => true
  | .null, .object _ => true
  | .null, .array _ => true
  | _, _ => false
/-- a callee, and how many it takes beside the receiver -/
def gi_okC (M M' : gi_M) (n : Nat) : Bool :=
  gi_in (.code (gi_name M') (gi_code M') (gi_maxL M') (gi_ret M')) && gi_in (.initialized (gi_name M').cls) && decide ((gi_name M').cls ≠ "java/lang/invoke/MethodHandle") && decide ((gi_name M').cls ≠ "java/lang/invoke/VarHandle") && decide ((parseMethodDescriptor (gi_name M').desc).map (fun d => d.parameters.length) = some n) && decide (gi_rk M' < gi_rk M) && decide (gi_maxL M' ≤ 22) && plainFor (gi_name M') && decide (gi_own M' = (gi_name M').cls)
def gi_okI (top : Bool) (pr : Nat → gi_M) (M : gi_M) (pc : Nat) (r : gi_I) : Bool :=
  match r with
  | (ins, a, b, v) => match ins with
    | .iconst n => decide (v = .int (Int32.ofInt n))
    | .lconst n => decide (v = .long (Int64.ofNat (n : Nat)))
    | .bipush n => decide (v = .int (Int8.ofInt n).toInt32)
    | .sipush n => decide (v = .int (Int16.ofInt n).toInt32)
    | .ldc i => match v with
      | .int x => gi_in (.constant (gi_own M) i x)
      | _ => false
    | .ldc_w i => match v with
      | .int x => gi_in (.constant (gi_own M) i x)
      | _ => false
    | .ldc2_w i => match v with
      | .long x => gi_in (.constantLong (gi_own M) i x)
      | _ => false
    | .iload_n k | .lload_n k | .aload_n k | .istore_n k | .lstore_n k | .astore_n k => decide ((k : Nat) = a)
    | .iload k | .lload k | .istore k | .lstore k => decide (k = a)
    | .iinc k n => decide (k = a) && decide (v = .int (Int32.ofInt n))
    | .goto off | .ifCond _ off | .if_icmp _ off | .ifnonnull off => decide ((pc : Int) + off = (a : Int))
    | .lookupswitch _ ps => (ps.toList.zip (ps.toList.drop 1)).all (fun (a, next) => a.1 < next.1)
    | .getfield i => match gi_cls[a]? with
      | none => false
      | some q => decide (b < q.2.2) && gi_in (.fieldLink (gi_own M) i (q.2.1 b).1 (q.2.1 b).2.1 (q.2.1 b).2.2.1)
    | .putfield i => match gi_cls[a]? with
      | none => false
      | some q => decide (b < q.2.2) && gi_in (.fieldLink (gi_own M) i (q.2.1 b).1 (q.2.1 b).2.1 (q.2.1 b).2.2.1) && gi_kok v (gi_tys a b) && (!(q.2.1 b).2.2.2 || (decide ((gi_name M).name = "<init>") && decide ((q.2.1 b).1 = gi_own M)))
    | .new i => match gi_cls[a]? with
      | none => false
      | some q => gi_in (.classLink (gi_own M) i q.1) && gi_in (.instantiable q.1 q.2.2) && gi_in (.initialized q.1)
    | .newarray t => (decide (a = 0) && decide (t = .int) && gi_in (.arrayClass .int)) || (decide (a = 1) && decide (t = .long) && gi_in (.arrayClass .long)) || (decide (a = 2) && decide (t = .boolean) && gi_in (.arrayClass .boolean))
    | .anewarray i => gi_in (.classLink (gi_own M) i gi_Bk)
    | .iaload | .arraylength => decide (a = 0) || (top && decide (a = 9))
    | .aastore => decide (a = 0)
    | .invokestatic i => match Nat.beq a 999 with
      | true => gi_in (.methodLink (gi_own M) i arraycopyName) && gi_in (.native arraycopyName) && gi_in (.static arraycopyName) && gi_in (.initialized "java/lang/System") && decide (1 ≤ gi_rk M)
      | false => (match v with
        | .ref _ => gi_inN (.methodLinkNest (gi_own M) i (gi_name (pr a)) "AdmiralGuinea")
        | _ => gi_in (.methodLink (gi_own M) i (gi_name (pr a)))) && gi_in (.static (gi_name (pr a))) && gi_okC M (pr a) b
    | .invokevirtual i => match v with
      | .ref ci => (match gi_cls[ci]? with
        | none => false
        | some q => decide (q.1 = (gi_name (pr a)).cls)) && gi_in (.methodLink (gi_own M) i (gi_name (pr a))) && gi_in (.instanceMethod (gi_name (pr a))) && gi_in (.selects (gi_name (pr a)).cls (gi_name (pr a)) (gi_name (pr a))) && (match b with
        | 0 => false
        | b' + 1 => gi_okC M (pr a) b')
      | _ => false
    | .invokespecial i => match Nat.beq a 998 with
      | true => gi_in (.methodLink (gi_own M) i objectInit) && gi_in (.instanceMethod objectInit) && gi_in (.code objectInit ⟨#[0xb1]⟩ 1 none) && decide (1 ≤ gi_rk M)
      | false => gi_in (.methodLink (gi_own M) i (gi_name (pr a))) && gi_in (.instanceMethod (gi_name (pr a))) && decide ((gi_name (pr a)).name = "<init>") && decide (gi_ret (pr a) = none) && (match b with
        | 0 => false
        | b' + 1 => gi_okC M (pr a) b')
    | _ => true
def gi_okR (top : Bool) (pr : Nat → gi_M) (M : gi_M) (r : gi_R) : Bool := decide (decode (gi_code M) r.1 = .ok (r.2.1, gi_len r.2.1 r.2.2.2.1)) && gi_okI top pr M r.1 r.2
def gi_okM (top : Bool) (pr : Nat → gi_M) (M : gi_M) : Prop := ∀ r ∈ gi_tab M, gi_okR top pr M r = true
theorem gi_look_mem : ∀ {t : List gi_R} {pc : Nat} {x : gi_I}, gi_look t pc = some x → (pc, x) ∈ t := by
  intro t
  induction t with
  | nil => intro pc x h; cases h
  | cons r t ih =>
    intro pc x h
    rw [gi_look] at h
    cases hb : Nat.beq r.1 pc with
    | true =>
      rw [hb] at h
      have e : r.1 = pc := Nat.eq_of_beq_eq_true hb
      cases h
      subst e
      exact List.mem_cons_self
    | false => rw [hb] at h; exact List.mem_cons_of_mem _ (ih h)
theorem gi_ok_at {top : Bool} {pr : Nat → gi_M} {M : gi_M} (hM : gi_okM top pr M) {pc : Nat} {x : gi_I} (h : gi_look (gi_tab M) pc = some x) : decode (gi_code M) pc = .ok (x.1, gi_len x.1 x.2.2.1) ∧ gi_okI top pr M pc x = true := by
  have h1 := hM _ (gi_look_mem h)
  simp only [gi_okR, Bool.and_eq_true, decide_eq_true_eq] at h1
  exact h1
/-! what is kept -/
def gi_P (h : gi_H) (lv : gi_Lv) (h' : gi_H) (lv' : gi_Lv) (st' : List Value) : Prop := gi_wh h' ∧ gi_wl h'.length lv' ∧ gi_ws h'.length st' ∧ gi_h0 h' ∧ h.length ≤ h'.length ∧ gi_slots h ≤ gi_slots h' ∧ lv'.length = lv.length ∧ h'[0]? = h[0]?
theorem gi_ws_cons {n : Nat} {v : Value} {t : List Value} : gi_ws n (v :: t) ↔ gi_wv n v ∧ gi_ws n t := by simp [gi_ws]
theorem gi_ws_nil {n : Nat} : gi_ws n [] := fun _ h => by cases h
theorem gi_P.st {h : gi_H} {lv : gi_Lv} {st' : List Value} (w : gi_wh h) (l : gi_wl h.length lv) (h0 : gi_h0 h) (s : gi_ws h.length st') : gi_P h lv h lv st' := ⟨w, l, s, h0, Nat.le_refl _, Nat.le_refl _, rfl, rfl⟩
theorem gi_P.s1 {h : gi_H} {lv lv' : gi_Lv} {st' : List Value} {i : Nat} {v : Value} (w : gi_wh h) (l : gi_wl h.length lv) (h0 : gi_h0 h) (s : gi_ws h.length st') (hv : gi_wv h.length v) (hs : gi_s1 lv i v = some lv') : gi_P h lv h lv' st' := by
  obtain ⟨a1, a2, a3⟩ := gi_s1_spec hs
  refine ⟨w, fun j x hx => ?_, s, h0, Nat.le_refl _, Nat.le_refl _, a1, rfl⟩
  rcases a3 j x hx with ⟨-, rfl⟩ | ⟨-, b, -⟩
  · exact hv
  · exact l j x b
theorem gi_P.s2 {h : gi_H} {lv lv' : gi_Lv} {st' : List Value} {i : Nat} {v : Value} (w : gi_wh h) (l : gi_wl h.length lv) (h0 : gi_h0 h) (s : gi_ws h.length st') (hv : gi_wv h.length v) (hs : gi_s2 lv i v = some lv') : gi_P h lv h lv' st' := by
  obtain ⟨a1, a2, a3⟩ := gi_s2_spec hs
  refine ⟨w, fun j x hx => ?_, s, h0, Nat.le_refl _, Nat.le_refl _, a1, rfl⟩
  rcases a3 j x hx with ⟨-, rfl⟩ | ⟨-, -, b, -⟩
  · exact hv
  · exact l j x b
theorem gi_P.set {h : gi_H} {lv : gi_Lv} {st' : List Value} {o : Nat} {e x : va_E} (w : gi_wh h) (l : gi_wl h.length lv) (h0 : gi_h0 h) (s : gi_ws h.length st') (he : h[o]? = some e) (hn : ∀ z, e ≠ .inl (9, z)) (hx : gi_sl x = gi_sl e) (hw : gi_we h.length x) (hx9 : ∀ z, x ≠ .inl (9, z)) : gi_P h lv (h.set o x) lv st' := by
  obtain ⟨k, rfl⟩ := gi_h0_ne h0 he hn
  have h00 : (h.set (k + 1) x)[0]? = h[0]? := by rw [List.getElem?_set_ne (by omega)]
  refine ⟨fun p z hz => ?_, by rw [List.length_set]; exact l, by rw [List.length_set]; exact s, ?_, by rw [List.length_set]; exact Nat.le_refl _, by rw [gi_slots_set hx he]; exact Nat.le_refl _, rfl, h00⟩
  · rw [List.length_set]
    by_cases hp : k + 1 = p
    · subst hp
      rw [List.getElem?_set_self (List.getElem?_eq_some_iff.mp he).1] at hz
      cases hz
      exact hw
    · rw [List.getElem?_set_ne hp] at hz
      exact w p z hz
  · obtain ⟨⟨y, hy⟩, h9⟩ := h0
    refine ⟨⟨y, by rw [h00]; exact hy⟩, fun p z hz => ?_⟩
    by_cases hp : k + 1 = p
    · subst hp
      rw [List.getElem?_set_self (List.getElem?_eq_some_iff.mp he).1] at hz
      exact absurd (Option.some.inj hz) (hx9 z)
    · rw [List.getElem?_set_ne hp] at hz
      exact h9 p z hz
theorem gi_P.app {h : gi_H} {lv : gi_Lv} {st : List Value} {x : va_E} (w : gi_wh h) (l : gi_wl h.length lv) (h0 : gi_h0 h) (s : gi_ws h.length st) (hw : gi_we (h.length + 1) x) (hx9 : ∀ z, x ≠ .inl (9, z)) : gi_P h lv (h ++ [x]) lv (.ref h.length :: st) := by
  have hl : (h ++ [x]).length = h.length + 1 := by simp
  have h00 : (h ++ [x])[0]? = h[0]? := by
    obtain ⟨⟨y, hy⟩, -⟩ := h0
    rw [List.getElem?_append_left (List.getElem?_eq_some_iff.mp hy).1]
  refine ⟨fun p z hz => ?_, by rw [hl]; exact l.mono (by omega), by rw [hl]; exact gi_ws_cons.mpr ⟨Nat.lt_succ_self _, s.mono (by omega)⟩, ?_, by omega, by rw [gi_slots_app]; omega, rfl, h00⟩
  · rw [hl]
    by_cases hp : p < h.length
    · rw [List.getElem?_append_left hp] at hz
      exact (w p z hz).mono (by omega)
    · rw [List.getElem?_append_right (by omega)] at hz
      have := (List.getElem?_eq_some_iff.mp hz).1
      simp only [List.length_singleton] at this
      rw [show p - h.length = 0 by omega] at hz
      cases hz
      exact hw
  · obtain ⟨⟨y, hy⟩, h9⟩ := h0
    refine ⟨⟨y, by rw [h00]; exact hy⟩, fun p z hz => ?_⟩
    by_cases hp : p < h.length
    · rw [List.getElem?_append_left hp] at hz
      exact h9 p z hz
    · rw [List.getElem?_append_right (by omega)] at hz
      have := (List.getElem?_eq_some_iff.mp hz).1
      simp only [List.length_singleton] at this
      rw [show p - h.length = 0 by omega] at hz
      exact absurd (Option.some.inj hz) (hx9 z)
/-! the heap's own functions -/
theorem gi_fg_inv {h : gi_H} {o c k : Nat} {v : Value} (e : gi_fg h o c k = some v) : ∃ fs, h[o]? = some (.inr (c, fs)) ∧ fs[k]? = some v := by
  unfold gi_fg at e
  split at e
  · rename_i c' fs he
    split at e
    · rename_i hc; subst hc; exact ⟨fs, he, e⟩
    · cases e
  · cases e
theorem gi_fp_inv {h h' : gi_H} {o c k : Nat} {v : Value} (e : gi_fp h o c k v = some h') : ∃ fs, h[o]? = some (.inr (c, fs)) ∧ k < fs.length ∧ h' = h.set o (.inr (c, fs.set k v)) := by
  unfold gi_fp at e
  split at e
  · rename_i c' fs he
    split at e
    · rename_i hc; obtain ⟨rfl, hk⟩ := hc; cases e; exact ⟨fs, he, hk, rfl⟩
    · cases e
  · cases e
theorem gi_is_inv {h : gi_H} {o c : Nat} (e : gi_is h o c = true) : ∃ fs, h[o]? = some (.inr (c, fs)) := by
  unfold gi_is at e
  split at e
  · rename_i c' fs he
    have := Nat.eq_of_beq_eq_true e
    subst this
    exact ⟨fs, he⟩
  · cases e
theorem gi_ai_inv {h : gi_H} {o t : Nat} {i x : Int32} (e : gi_ai h o t i = some x) : ∃ n f, h[o]? = some (.inl (t, n, .inl f)) ∧ vp_in i n ∧ x = f i.toNatClampNeg := by
  unfold gi_ai at e
  split at e
  · rename_i t' n f he
    split at e
    · rename_i hc; obtain ⟨rfl, hk⟩ := hc; cases e; exact ⟨n, f, he, hk, rfl⟩
    · cases e
  · cases e
theorem gi_pi_inv {h h' : gi_H} {o t : Nat} {i x : Int32} (e : gi_pi h o t i x = some h') : ∃ n f, h[o]? = some (.inl (t, n, .inl f)) ∧ vp_in i n ∧ h' = h.set o (.inl (t, n, .inl (upd f i.toNatClampNeg x))) := by
  unfold gi_pi at e
  split at e
  · rename_i t' n f he
    split at e
    · rename_i hc; obtain ⟨rfl, hk⟩ := hc; cases e; exact ⟨n, f, he, hk, rfl⟩
    · cases e
  · cases e
theorem gi_al_inv {h : gi_H} {o : Nat} {i : Int32} {x : Int64} (e : gi_al h o i = some x) : ∃ n f, h[o]? = some (.inl (1, n, .inr (.inl f))) ∧ vp_in i n ∧ x = f i.toNatClampNeg := by
  unfold gi_al at e
  split at e
  · rename_i t' n f he
    split at e
    · rename_i hc; obtain ⟨rfl, hk⟩ := hc; cases e; exact ⟨n, f, he, hk, rfl⟩
    · cases e
  · cases e
theorem gi_pl_inv {h h' : gi_H} {o : Nat} {i : Int32} {x : Int64} (e : gi_pl h o i x = some h') : ∃ n f, h[o]? = some (.inl (1, n, .inr (.inl f))) ∧ vp_in i n ∧ h' = h.set o (.inl (1, n, .inr (.inl (vp_updL f i.toNatClampNeg x)))) := by
  unfold gi_pl at e
  split at e
  · rename_i t' n f he
    split at e
    · rename_i hc; obtain ⟨rfl, hk⟩ := hc; cases e; exact ⟨n, f, he, hk, rfl⟩
    · cases e
  · cases e
theorem gi_aq_inv {h : gi_H} {o : Nat} {i : Int32} {x : Option Nat} (e : gi_aq h o i = some x) : ∃ n f, h[o]? = some (.inl (3, n, .inr (.inr (.inr (.inr f))))) ∧ vp_in i n ∧ x = f i.toNatClampNeg := by
  unfold gi_aq at e
  split at e
  · rename_i t' n f he
    split at e
    · rename_i hc; obtain ⟨rfl, hk⟩ := hc; cases e; exact ⟨n, f, he, hk, rfl⟩
    · cases e
  · cases e
theorem gi_pq_inv {h h' : gi_H} {o x c : Nat} {i : Int32} (e : gi_pq h o i x c = some h') : ∃ n f, h[o]? = some (.inl (3, n, .inr (.inr (.inr (.inr f))))) ∧ vp_in i n ∧ gi_is h x c = true ∧ h' = h.set o (.inl (3, n, .inr (.inr (.inr (.inr (va_up f i.toNatClampNeg (some x))))))) := by
  unfold gi_pq at e
  split at e
  · rename_i t' n f he
    split at e
    · rename_i hc; obtain ⟨rfl, hk, hi⟩ := hc; cases e; exact ⟨n, f, he, hk, hi, rfl⟩
    · cases e
  · cases e
theorem gi_an_inv {h : gi_H} {o t n : Nat} (e : gi_an h o t = some n) : ∃ f, h[o]? = some (.inl (t, n, .inl f)) := by
  unfold gi_an at e
  split at e
  · rename_i t' n f he
    split at e
    · rename_i hc; obtain rfl := hc; cases e; exact ⟨f, he⟩
    · cases e
  · cases e
theorem gi_cp_inv {h h' : gi_H} {a d : Nat} {sp dp n : Int32} (e : gi_cp h a sp d dp n = some h') : ∃ n0 f n1 g, h[a]? = some (.inl (0, n0, .inl f)) ∧ h[d]? = some (.inl (0, n1, .inl g)) ∧ ¬ sp < 0 ∧ ¬ dp < 0 ∧ ¬ n < 0 ∧ sp.toNatClampNeg + n.toNatClampNeg ≤ n0 ∧ dp.toNatClampNeg + n.toNatClampNeg ≤ n1 ∧ h' = h.set d (.inl (0, n1, .inl (va_cpy f g sp.toNatClampNeg dp.toNatClampNeg n.toNatClampNeg))) := by
  unfold gi_cp at e
  split at e
  · rename_i t0 n0 f t1 n1 g he hd
    split at e
    · rename_i hc; obtain ⟨rfl, rfl, c1, c2, c3, c4, c5⟩ := hc; cases e; exact ⟨n0, f, n1, g, he, hd, c1, c2, c3, c4, c5, rfl⟩
    · cases e
  · cases e
theorem gi_kl_inv {pc : Nat} {o : Option gi_Lv} {st : List Value} {h : gi_H} {pc' : Nat} {lv' : gi_Lv} {st' : List Value} {h' : gi_H} (e : gi_kl pc o st h = some (.inl (pc', lv', st', h'))) : o = some lv' ∧ pc' = pc ∧ st' = st ∧ h' = h := by
  cases o with
  | none => cases e
  | some x => cases e; exact ⟨rfl, rfl, rfl, rfl⟩
theorem gi_kh_inv {pc : Nat} {o : Option gi_H} {lv : gi_Lv} {st : List Value} {pc' : Nat} {lv' : gi_Lv} {st' : List Value} {h' : gi_H} (e : gi_kh pc lv st o = some (.inl (pc', lv', st', h'))) : o = some h' ∧ pc' = pc ∧ st' = st ∧ lv' = lv := by
  cases o with
  | none => cases e
  | some x => cases e; exact ⟨rfl, rfl, rfl, rfl⟩
theorem gi_kp_inv {o : Option Nat} {lv : gi_Lv} {st : List Value} {h : gi_H} {pc' : Nat} {lv' : gi_Lv} {st' : List Value} {h' : gi_H} (e : gi_kp o lv st h = some (.inl (pc', lv', st', h'))) : o = some pc' ∧ h' = h ∧ st' = st ∧ lv' = lv := by
  cases o with
  | none => cases e
  | some x => cases e; exact ⟨rfl, rfl, rfl, rfl⟩
theorem gi_call_ninl {j b : Nat} {st : List Value} {s : gi_S} (e : gi_call j b st = some (.inl s)) : False := by
  unfold gi_call at e
  split at e
  · cases e
  · split at e <;> cases e
theorem gi_callV_ninl {j b ci : Nat} {st : List Value} {h : gi_H} {s : gi_S} (e : gi_callV j b ci st h = some (.inl s)) : False := by
  unfold gi_callV at e
  split at e
  · cases e
  · split at e
    · cases e
    · split at e
      · split at e <;> cases e
      · cases e
theorem gi_ws_set {n k : Nat} {fs : List Value} {v : Value} (h : gi_ws n fs) (hv : gi_wv n v) : gi_ws n (fs.set k v) := by
  intro x hx
  rcases List.mem_or_eq_of_mem_set hx with hx | rfl
  · exact h x hx
  · exact hv
theorem gi_ws_get {n k : Nat} {fs : List Value} {v : Value} (h : gi_ws n fs) (hk : fs[k]? = some v) : gi_wv n v := h v (List.mem_of_getElem? hk)
theorem gi_noref_ws {n : Nat} {l : List Value} (h : gi_noref l = true) : gi_ws n l := by
  intro v hv
  have := List.all_eq_true.mp h v hv
  cases v with
  | ref k => cases this
  | _ => trivial
set_option maxHeartbeats 4000000 in
theorem gi_go_P {top : Bool} {pr : Nat → gi_M} {M : gi_M} {ret : Option FieldType} {r : gi_I} {pc : Nat} {lv : gi_Lv} {st : List Value} {h : gi_H} {pc' : Nat} {lv' : gi_Lv} {st' : List Value} {h' : gi_H} (hok : gi_okI top pr M pc r = true) (w : gi_wh h) (l : gi_wl h.length lv) (s : gi_ws h.length st) (h0 : gi_h0 h) (e : gi_go gi_df ret r pc lv st h = some (.inl (pc', lv', st', h'))) : gi_P h lv h' lv' st' := by
  obtain ⟨ins, a, b, v⟩ := r
  cases ins with
  | iconst | lconst | bipush | sipush =>
    simp only [gi_okI, decide_eq_true_eq] at hok
    subst hok
    cases e
    exact gi_P.st w l h0 (gi_ws_cons.mpr ⟨trivial, s⟩)
  | ldc | ldc_w | ldc2_w =>
    cases e
    refine gi_P.st w l h0 (gi_ws_cons.mpr ⟨?_, s⟩)
    cases v <;> first | trivial | simp [gi_okI] at hok
  | iload_n | iload | lload_n | lload | aload_n =>
    simp only [gi_go] at e
    split at e <;> first | (cases e; exact gi_P.st w l h0 (gi_ws_cons.mpr ⟨l _ _ (by assumption), s⟩)) | cases e
  | istore_n | istore | lstore_n | lstore | astore_n =>
    simp only [gi_go] at e
    split at e <;> first | (obtain ⟨e1, -, rfl, rfl⟩ := gi_kl_inv e; have s1 := gi_ws_cons.mp s; first | exact gi_P.s1 w l h0 s1.2 s1.1 e1 | exact gi_P.s2 w l h0 s1.2 s1.1 e1) | cases e
  | iinc =>
    simp only [gi_go] at e
    split at e
    · obtain ⟨e1, -, rfl, rfl⟩ := gi_kl_inv e
      refine gi_P.s1 w l h0 s ?_ e1
      exact trivial
    · cases e
  | iadd | isub | imul | ineg | iand | ior | ixor | ishl | ishr | iushr | ladd | lsub | lmul | lneg | land | lor | lshl | lshr | lushr | lcmp | i2l | l2i | dup | dup2 | pop =>
    simp only [gi_go] at e
    split at e <;> first | (cases e; refine gi_P.st w l h0 ?_; simp only [gi_ws_cons, gi_wv] at s ⊢; simp [s]) | cases e
  | idiv | irem | ldiv | lrem =>
    simp only [gi_go] at e
    split at e
    · split at e
      · cases e
      · cases e; refine gi_P.st w l h0 ?_; simp only [gi_ws_cons, gi_wv] at s ⊢; simp [s]
    · cases e
  | goto => cases e; exact gi_P.st w l h0 s
  | ifCond c off =>
    cases c <;> simp only [gi_go] at e <;> split at e <;> first | cases e | (split at e <;> (cases e; refine gi_P.st w l h0 ?_; simp only [gi_ws_cons, gi_wv] at s ⊢; simp [s]))
  | if_icmp c off =>
    cases c <;> simp only [gi_go] at e <;> split at e <;> first | cases e | (split at e <;> (cases e; refine gi_P.st w l h0 ?_; simp only [gi_ws_cons, gi_wv] at s ⊢; simp [s]))
  | ifnonnull =>
    simp only [gi_go] at e
    split at e <;> first | (cases e; exact gi_P.st w l h0 (gi_ws_cons.mp s).2) | cases e
  | tableswitch =>
    simp only [gi_go] at e
    split at e
    · split at e
      · obtain ⟨-, rfl, rfl, rfl⟩ := gi_kp_inv e; exact gi_P.st w l h0 (gi_ws_cons.mp s).2
      · split at e
        · cases e
        · obtain ⟨-, rfl, rfl, rfl⟩ := gi_kp_inv e; exact gi_P.st w l h0 (gi_ws_cons.mp s).2
    · cases e
  | lookupswitch =>
    simp only [gi_go] at e
    split at e
    · obtain ⟨-, rfl, rfl, rfl⟩ := gi_kp_inv e; exact gi_P.st w l h0 (gi_ws_cons.mp s).2
    · cases e
  | getfield =>
    simp only [gi_go] at e
    split at e
    · split at e
      · cases e
      · rename_i x hx
        cases e
        obtain ⟨fs, g1, g2⟩ := gi_fg_inv hx
        exact gi_P.st w l h0 (gi_ws_cons.mpr ⟨gi_ws_get (w _ _ g1) g2, (gi_ws_cons.mp s).2⟩)
    · cases e
  | putfield =>
    simp only [gi_go] at e
    split at e
    · split at e
      · obtain ⟨e1, -, rfl, rfl⟩ := gi_kh_inv e
        obtain ⟨fs, g1, g2, rfl⟩ := gi_fp_inv e1
        have s1 := gi_ws_cons.mp s
        exact gi_P.set w l h0 (gi_ws_cons.mp s1.2).2 g1 (fun _ z => by cases z) rfl (gi_ws_set (w _ _ g1) s1.1) (fun _ z => by cases z)
      · cases e
    · cases e
  | iaload | baload | laload =>
    simp only [gi_go] at e
    split at e
    · split at e
      · cases e
      · cases e
        exact gi_P.st w l h0 (gi_ws_cons.mpr ⟨trivial, (gi_ws_cons.mp (gi_ws_cons.mp s).2).2⟩)
    · cases e
  | aaload =>
    simp only [gi_go] at e
    split at e
    · split at e
      · cases e
      · cases e
        exact gi_P.st w l h0 (gi_ws_cons.mpr ⟨trivial, (gi_ws_cons.mp (gi_ws_cons.mp s).2).2⟩)
      · rename_i x hx
        cases e
        obtain ⟨n, f, g1, g2, g3⟩ := gi_aq_inv hx
        exact gi_P.st w l h0 (gi_ws_cons.mpr ⟨w _ _ g1 _ _ g3.symm, (gi_ws_cons.mp (gi_ws_cons.mp s).2).2⟩)
    · cases e
  | iastore =>
    simp only [gi_go] at e
    split at e
    · obtain ⟨e1, -, rfl, rfl⟩ := gi_kh_inv e
      obtain ⟨n, f, g1, g2, rfl⟩ := gi_pi_inv e1
      simp only [gi_ws_cons] at s
      exact gi_P.set w l h0 s.2.2.2 g1 (fun _ z => by cases z) rfl trivial (fun _ z => by cases z)
    · cases e
  | bastore =>
    simp only [gi_go] at e
    split at e
    · split at e
      · obtain ⟨e1, -, rfl, rfl⟩ := gi_kh_inv e
        obtain ⟨n, f, g1, g2, rfl⟩ := gi_pi_inv e1
        simp only [gi_ws_cons] at s
        exact gi_P.set w l h0 s.2.2.2 g1 (fun _ z => by cases z) rfl trivial (fun _ z => by cases z)
      · cases e
    · cases e
  | lastore =>
    simp only [gi_go] at e
    split at e
    · obtain ⟨e1, -, rfl, rfl⟩ := gi_kh_inv e
      obtain ⟨n, f, g1, g2, rfl⟩ := gi_pl_inv e1
      simp only [gi_ws_cons] at s
      exact gi_P.set w l h0 s.2.2.2 g1 (fun _ z => by cases z) rfl trivial (fun _ z => by cases z)
    · cases e
  | aastore =>
    simp only [gi_go] at e
    split at e
    · obtain ⟨e1, -, rfl, rfl⟩ := gi_kh_inv e
      obtain ⟨n, f, g1, g2, g3, rfl⟩ := gi_pq_inv e1
      simp only [gi_ws_cons] at s
      refine gi_P.set w l h0 s.2.2.2 g1 (fun _ z => by cases z) rfl (fun j k hj => ?_) (fun _ z => by cases z)
      by_cases hji : j = Int32.toNatClampNeg ‹_›
      · subst hji
        simp only [va_up, if_true, Option.some.injEq] at hj
        rw [← hj]
        exact s.1
      · simp only [va_up, if_neg hji] at hj
        exact w _ _ g1 _ _ hj
    · cases e
  | arraylength =>
    simp only [gi_go] at e
    split at e
    · split at e
      · cases e
      · cases e
        exact gi_P.st w l h0 (gi_ws_cons.mpr ⟨trivial, (gi_ws_cons.mp s).2⟩)
    · cases e
  | newarray =>
    simp only [gi_go] at e
    split at e
    · split at e
      · cases e
        refine gi_P.app w l h0 (gi_ws_cons.mp s).2 ?_ ?_
        · unfold gi_na
          split <;> first | trivial | (intro j k hj; cases hj)
        · intro z hz
          unfold gi_na at hz
          split at hz <;> cases hz
      · cases e
    · cases e
  | anewarray =>
    simp only [gi_go] at e
    split at e
    · split at e
      · cases e
        exact gi_P.app w l h0 (gi_ws_cons.mp s).2 (fun j k hj => by cases hj) (fun _ z => by cases z)
      · cases e
    · cases e
  | new =>
    cases e
    refine gi_P.app w l h0 s ?_ (fun _ z => by cases z)
    simp only [gi_okI] at hok
    split at hok
    · cases hok
    · rename_i q hq
      exact gi_noref_ws (gi_dfok _ _ hq).2
  | invokestatic =>
    simp only [gi_go] at e
    split at e
    · split at e
      · obtain ⟨e1, -, rfl, rfl⟩ := gi_kh_inv e
        obtain ⟨n0, f, n1, g, g1, g2, -, -, -, -, -, rfl⟩ := gi_cp_inv e1
        exact gi_P.set w l h0 gi_ws_nil g2 (fun _ z => by cases z) rfl trivial (fun _ z => by cases z)
      · cases e
    · exact (gi_call_ninl e).elim
  | invokevirtual =>
    simp only [gi_go] at e
    split at e
    · exact (gi_callV_ninl e).elim
    · cases e
  | invokespecial =>
    simp only [gi_go] at e
    split at e
    · split at e
      · cases e; exact gi_P.st w l h0 gi_ws_nil
      · cases e
    · split at e
      · cases e
      · split at e
        · cases e
        · exact (gi_call_ninl e).elim
  | ireturn =>
    simp only [gi_go] at e
    split at e
    · split at e <;> cases e
    · cases e
  | lreturn | return_ =>
    simp only [gi_go] at e
    split at e <;> cases e
  | _ => cases e
end
section
/-! FROM THE INTERPRETER TO THE MACHINE, 3: one instruction that calls nothing -/
abbrev gi_tyl (ct : Nat → ClassId) : List (ClassId × FieldType) := [(ct 0, .int), (ct 1, .long), (ct 2, .boolean), (ct 3, .object gi_Bk)]
/-- where a method runs -/
def gi_C (D : va_G) (ct : Nat → ClassId) (M : gi_M) (p : Program) (R : Room) (s : State) (m : MethodId) (args : Array Value) (meth : Method) (c : Code) : Prop :=
  p.tables.exec = Jvm.exec ∧ c.code = gi_code M ∧ meth.sig.returnType = gi_ret M ∧ c.maxLocals = gi_maxL M ∧ s.vm.findClass (gi_own M) = some m.cls ∧ (∀ w ∈ gi_AW, w.before args s = true) ∧ gi_NW s ∧ va_K D gi_cls (gi_tyl ct) s ∧ meth.locks = false ∧ meth.name = (gi_name M).name ∧ gi_rk M ≤ R.frames ∧ 41 * gi_rk M ≤ R.locals
def gi_Wd (D : va_G) (ct : Nat → ClassId) (A : Nat → Prop) (s : State) (n0 s0 : Nat) (ad : Nat → Nat) (h : gi_H) (H : Heap) (locs : List Loc) (cells slots : Nat) : Prop :=
  va_P D gi_cls (gc_w ct ad h) H ∧ va_D A (gc_w ct ad h) ∧ va_S A s.heap H locs ∧ cells + n0 = h.length ∧ slots + s0 = gi_slots h
theorem gi_tg_inv {pc t : Nat} {off : Int} (e : gi_tg pc off = some t) : (pc : Int) + off = (t : Int) := by
  unfold gi_tg at e
  split at e
  · rename_i k hk; cases e; exact hk
  · cases e
theorem gi_kd_fit {k v : Value} {ty : FieldType} (ad : Nat → Nat) (h1 : gi_kd k v = true) (h2 : gi_kok k ty = true) : narrow ty (gc_v ad v) = gc_v ad v ∧ fits ty (gc_v ad v) = true := by
  unfold gi_kd at h1
  split at h1
  · cases ty <;> first | exact ⟨rfl, rfl⟩ | cases h2
  · cases ty <;> first | exact ⟨rfl, rfl⟩ | cases h2
  · cases ty <;> first | exact ⟨rfl, rfl⟩ | cases h2
  · rcases decide_eq_true_eq.mp h1 with rfl | rfl <;> cases ty <;> first | exact ⟨rfl, rfl⟩ | (exact ⟨show narrow .boolean (.int _) = .int _ by decide, show fits .boolean (.int _) = true by decide⟩) | cases h2
  · cases h1
theorem gc_map_get {ad : Nat → Nat} {fs : List Value} {k : Nat} {v : Value} (h : fs[k]? = some v) : (fs.map (gc_v ad))[k]? = some (gc_v ad v) := by rw [List.getElem?_map, h]; rfl
section GST
variable {pr : Nat → gi_M} {top : Bool} {M : gi_M} {D : va_G} {ct : Nat → ClassId} {p : Program} {l : Launch} {e : Env} {R : Room} {s : State} {m : MethodId} {args : Array Value} {below : List Frame} {meth : Method} {c : Code} {Q : State → Prop} {A : Nat → Prop} {b0 L : Nat} {xs : Nat → Int32}
variable {ad : Nat → Nat} {ls : Array Slot} {lv : gi_Lv} {st : List Value} {h : gi_H} {H : Heap} {locs : List Loc} {cells slots n0 s0 : Nat} {r : gi_I} {pc pc' : Nat} {lv' : gi_Lv} {st' : List Value} {h' : gi_H}
set_option maxHeartbeats 8000000 in
theorem gi_stepW (C : gi_C D ct M p R s m args meth c) (hA : ∀ q, s.heap.size ≤ q → A q) (hX : top = true → va_X b0 L xs s s.heap ∧ b0 < s.heap.size ∧ ¬ A b0) (hsc : top = true → ad 0 = b0 ∧ h[0]? = some (.inl (9, L, .inl xs)))
    (hl : gi_L ls (gi_maxL M) ad lv) (hw : gi_Wd D ct A s n0 s0 ad h H locs cells slots) (wh : gi_wh h) (wl : gi_wl h.length lv) (ws : gi_ws h.length st) (h0 : gi_h0 h)
    (hd : decode (gi_code M) pc = .ok (r.1, gi_len r.1 r.2.2.1)) (hok : gi_okI top pr M pc r = true) (g : gi_go gi_df (gi_ret M) r pc lv st h = some (.inl (pc', lv', st', h'))) (hRc : h'.length ≤ n0 + R.cells) (hRs : gi_slots h' ≤ s0 + R.slots)
    (kk : ∀ (ls' : Array Slot) (ad' : Nat → Nat) (H' : Heap) (locs' : List Loc) (cells' slots' : Nat), (∀ k, k < h.length → ad' k = ad k) → gi_L ls' (gi_maxL M) ad' lv' → gi_Wd D ct A s n0 s0 ad' h' H' locs' cells' slots' → W p l e R s m args below meth c H' locs' cells' slots' Q (F0 m pc' ls' (st'.map (gc_v ad')))) :
    W p l e R s m args below meth c H locs cells slots Q (F0 m pc ls (st.map (gc_v ad))) := by
  obtain ⟨hx, hb, hr, hml, hown, hts, hNW, hK, hlocks, hnm, hfr, hlo⟩ := C
  obtain ⟨hP, hD, hS, hcc, hss⟩ := hw
  have same : W p l e R s m args below meth c H locs cells slots Q (F0 m pc' ls (st'.map (gc_v ad))) ∨ True := Or.inr trivial
  obtain ⟨ins, a, b, v⟩ := r
  have k0 : lv' = lv → h' = h → W p l e R s m args below meth c H locs cells slots Q (F0 m pc' ls (st'.map (gc_v ad))) := by
    intro q1 q2
    subst q1; subst q2
    exact kk ls ad H locs cells slots (fun _ _ => rfl) hl ⟨hP, hD, hS, hcc, hss⟩
  have k1 : ∀ {i : Nat} {z : Value}, gi_s1 lv i z = some lv' → h' = h → ∀ ls', lv_has ls' (gi_maxL M) ((i, gc_v ad z) :: (gi_ent ad lv).filter (fun q => !(q.1 == i) && !(q.1 + 1 == i && q.2.category == 2))) → W p l e R s m args below meth c H locs cells slots Q (F0 m pc' ls' (st'.map (gc_v ad))) := by
    intro i z q1 q2 ls' q3
    subst q2
    exact kk ls' ad H locs cells slots (fun _ _ => rfl) (hl.st1 q1 q3) ⟨hP, hD, hS, hcc, hss⟩
  have k2 : ∀ {i : Nat} {z : Value}, gi_s2 lv i z = some lv' → h' = h → ∀ ls', lv_has ls' (gi_maxL M) ((i, gc_v ad z) :: (gi_ent ad lv).filter (fun q => !(q.1 == i) && (!(q.1 == i + 1) && !(q.1 + 1 == i && q.2.category == 2)))) → W p l e R s m args below meth c H locs cells slots Q (F0 m pc' ls' (st'.map (gc_v ad))) := by
    intro i z q1 q2 ls' q3
    subst q2
    exact kk ls' ad H locs cells slots (fun _ _ => rfl) (hl.st2 q1 q3) ⟨hP, hD, hS, hcc, hss⟩
  have k3 : ∀ {o : Nat} {x y : va_E}, lv' = lv → h' = h.set (o + 1) x → h[o + 1]? = some y → gi_sl x = gi_sl y → ∀ (H1 : Heap) (locs1 : List Loc), va_P D gi_cls ((gc_w ct ad h).set o (ad (o + 1), gc_e ct ad x)) H1 → va_D A ((gc_w ct ad h).set o (ad (o + 1), gc_e ct ad x)) → va_S A s.heap H1 locs1 → W p l e R s m args below meth c H1 locs1 cells slots Q (F0 m pc' ls (st'.map (gc_v ad))) := by
    intro o x y q1 q2 q4 q3 H1 locs1 hP1 hD1 hS1
    subst q1; subst q2
    exact kk ls ad H1 locs1 cells slots (fun _ _ => rfl) hl ⟨by rw [gc_w_set]; exact hP1, by rw [gc_w_set]; exact hD1, hS1, by rw [List.length_set]; exact hcc, by rw [gi_slots_set q3 q4]; exact hss⟩
  have k4 : ∀ {x : va_E} {y : va_E} {sl : Nat} {rest : List Value}, lv' = lv → h' = h ++ [x] → st' = .ref h.length :: rest → gi_ws h.length rest → (∀ ad2, gc_e ct ad2 x = y) → gi_sl x = sl → ∀ (q : Nat) (H1 : Heap), va_P D gi_cls (gc_w ct ad h ++ [(q, y)]) H1 → va_D A (gc_w ct ad h ++ [(q, y)]) → va_S A s.heap H1 locs → W p l e R s m args below meth c H1 locs (cells + 1) (slots + sl) Q (F0 m pc' ls (.ref q :: rest.map (gc_v ad))) := by
    intro x y sl rest q1 q2 q5 q6 q3 q4 q H1 hP1 hD1 hS1
    subst q1; subst q2; subst q5
    have ag : ∀ k, k < h.length → va_up ad h.length q k = ad k := fun k hk => by simp [va_up, Nat.ne_of_lt hk]
    have e1 : (Value.ref h.length :: rest).map (gc_v (va_up ad h.length q)) = .ref q :: rest.map (gc_v ad) := by
      rw [List.map_cons, gc_s_ag ag q6]
      simp [gc_v, va_up]
    have := kk ls (va_up ad h.length q) H1 locs (cells + 1) (slots + sl) ag (hl.ag ag wl) ⟨by rw [gc_w_app h0 wh q (q3 _)]; exact hP1, by rw [gc_w_app h0 wh q (q3 _)]; exact hD1, hS1, by simp; omega, by rw [gi_slots_app]; omega⟩
    rw [e1] at this
    exact this
  cases ins with
  | iconst n =>
    simp only [gi_okI, decide_eq_true_eq] at hok
    subst hok
    cases g
    exact lv_iconst hx hb hd rfl (k0 rfl rfl)
  | lconst n =>
    simp only [gi_okI, decide_eq_true_eq] at hok
    subst hok
    cases g
    exact lv_lconst hx hb hd rfl (k0 rfl rfl)
  | bipush n =>
    simp only [gi_okI, decide_eq_true_eq] at hok
    subst hok
    cases g
    exact lv_bipush hx hb hd rfl (k0 rfl rfl)
  | sipush n =>
    simp only [gi_okI, decide_eq_true_eq] at hok
    subst hok
    cases g
    exact lv_sipush hx hb hd rfl (k0 rfl rfl)
  | ldc n =>
    cases g
    cases v with
    | int x => exact lv_ldc hx hb hown (hts _ (gi_in_mem hok)) hd (k0 rfl rfl)
    | _ => cases hok
  | ldc_w n =>
    cases g
    cases v with
    | int x => exact lv_ldcw hx hb hown (hts _ (gi_in_mem hok)) hd (k0 rfl rfl)
    | _ => cases hok
  | ldc2_w n =>
    cases g
    cases v with
    | long x => exact lv_ldc2 hx hb hown (hts _ (gi_in_mem hok)) hd (k0 rfl rfl)
    | _ => cases hok
  | iload_n n =>
    simp only [gi_okI, decide_eq_true_eq] at hok
    simp only [gi_go] at g
    split at g
    · rename_i hq
      cases g
      exact lv_iload_n hx hb hd hok (hl.2.2.2 _ _ hq) (k0 rfl rfl)
    · cases g
  | lload_n n =>
    simp only [gi_okI, decide_eq_true_eq] at hok
    simp only [gi_go] at g
    split at g
    · rename_i hq
      cases g
      exact lv_lload_n hx hb hd hok (hl.2.2.2 _ _ hq) (k0 rfl rfl)
    · cases g
  | aload_n n =>
    simp only [gi_okI, decide_eq_true_eq] at hok
    simp only [gi_go] at g
    split at g
    · rename_i hq
      cases g
      exact lv_aload_n hx hb hd hok (hl.2.2.2 _ _ hq) (k0 rfl rfl)
    · rename_i hq
      cases g
      exact lv_aload_nN hx hb hd hok (hl.2.2.2 _ _ hq) (k0 rfl rfl)
    · cases g
  | iload n =>
    simp only [gi_okI, decide_eq_true_eq] at hok
    subst hok
    simp only [gi_go] at g
    split at g
    · rename_i hq
      cases g
      exact lv_iload hx hb hd (hl.2.2.2 _ _ hq) (k0 rfl rfl)
    · cases g
  | lload n =>
    simp only [gi_okI, decide_eq_true_eq] at hok
    subst hok
    simp only [gi_go] at g
    split at g
    · rename_i hq
      cases g
      exact lv_lload hx hb hd (hl.2.2.2 _ _ hq) (k0 rfl rfl)
    · cases g
  | istore_n n =>
    simp only [gi_okI, decide_eq_true_eq] at hok
    simp only [gi_go] at g
    split at g
    · obtain ⟨q1, rfl, rfl, rfl⟩ := gi_kl_inv g
      exact lv_istore_n hx hb hd hok hl.has (by rw [← hl.1]; exact (gi_s1_spec q1).2.1) rfl (fun ls' q => k1 q1 rfl ls' q)
    · cases g
  | lstore_n n =>
    simp only [gi_okI, decide_eq_true_eq] at hok
    simp only [gi_go] at g
    split at g
    · obtain ⟨q1, rfl, rfl, rfl⟩ := gi_kl_inv g
      exact lv_lstore_n hx hb hd hok hl.has (by rw [← hl.1]; exact (gi_s2_spec q1).2.1) rfl (fun ls' q => k2 q1 rfl ls' q)
    · cases g
  | astore_n n =>
    simp only [gi_okI, decide_eq_true_eq] at hok
    simp only [gi_go] at g
    split at g
    · obtain ⟨q1, rfl, rfl, rfl⟩ := gi_kl_inv g
      exact lv_astore_n hx hb hd hok hl.has (by rw [← hl.1]; exact (gi_s1_spec q1).2.1) rfl (fun ls' q => k1 q1 rfl ls' q)
    · obtain ⟨q1, rfl, rfl, rfl⟩ := gi_kl_inv g
      exact lv_astore_nN hx hb hd hok hl.has (by rw [← hl.1]; exact (gi_s1_spec q1).2.1) rfl (fun ls' q => k1 q1 rfl ls' q)
    · cases g
  | istore n =>
    simp only [gi_okI, decide_eq_true_eq] at hok
    subst hok
    simp only [gi_go] at g
    split at g
    · obtain ⟨q1, rfl, rfl, rfl⟩ := gi_kl_inv g
      exact lv_istore hx hb hd hl.has (by rw [← hl.1]; exact (gi_s1_spec q1).2.1) rfl (fun ls' q => k1 q1 rfl ls' q)
    · cases g
  | lstore n =>
    simp only [gi_okI, decide_eq_true_eq] at hok
    subst hok
    simp only [gi_go] at g
    split at g
    · obtain ⟨q1, rfl, rfl, rfl⟩ := gi_kl_inv g
      exact lv_lstore hx hb hd hl.has (by rw [← hl.1]; exact (gi_s2_spec q1).2.1) rfl (fun ls' q => k2 q1 rfl ls' q)
    · cases g
  | iinc i n =>
    simp only [gi_okI, Bool.and_eq_true, decide_eq_true_eq] at hok
    obtain ⟨rfl, rfl⟩ := hok
    simp only [gi_go] at g
    split at g
    · rename_i x c' hq hc
      cases hc
      obtain ⟨q1, rfl, rfl, rfl⟩ := gi_kl_inv g
      obtain ⟨kx, hkx⟩ := List.getElem?_of_mem (gi_ent_mem (ad := ad) hq)
      exact lv_iinc hx hb hd hl.has hkx rfl (by rw [← hl.1]; exact (gi_s1_spec q1).2.1) rfl (fun ls' q => k1 q1 rfl ls' q)
    · cases g
  | iadd =>
    simp only [gi_go] at g
    split at g
    · cases g
      exact lv_iadd hx hb hd (k0 rfl rfl)
    · cases g
  | isub =>
    simp only [gi_go] at g
    split at g
    · cases g
      exact lv_isub hx hb hd (k0 rfl rfl)
    · cases g
  | imul =>
    simp only [gi_go] at g
    split at g
    · cases g
      exact lv_imul hx hb hd (k0 rfl rfl)
    · cases g
  | ineg =>
    simp only [gi_go] at g
    split at g
    · cases g
      exact lv_ineg hx hb hd (k0 rfl rfl)
    · cases g
  | iand =>
    simp only [gi_go] at g
    split at g
    · cases g
      exact lv_iand hx hb hd (k0 rfl rfl)
    · cases g
  | ior =>
    simp only [gi_go] at g
    split at g
    · cases g
      exact lv_ior hx hb hd (k0 rfl rfl)
    · cases g
  | ixor =>
    simp only [gi_go] at g
    split at g
    · cases g
      exact lv_ixor hx hb hd (k0 rfl rfl)
    · cases g
  | ishl =>
    simp only [gi_go] at g
    split at g
    · cases g
      exact lv_ishl hx hb hd (k0 rfl rfl)
    · cases g
  | ishr =>
    simp only [gi_go] at g
    split at g
    · cases g
      exact lv_ishr hx hb hd (k0 rfl rfl)
    · cases g
  | ladd =>
    simp only [gi_go] at g
    split at g
    · cases g
      exact lv_ladd hx hb hd (k0 rfl rfl)
    · cases g
  | lsub =>
    simp only [gi_go] at g
    split at g
    · cases g
      exact lv_lsub hx hb hd (k0 rfl rfl)
    · cases g
  | lmul =>
    simp only [gi_go] at g
    split at g
    · cases g
      exact lv_lmul hx hb hd (k0 rfl rfl)
    · cases g
  | lneg =>
    simp only [gi_go] at g
    split at g
    · cases g
      exact lv_lneg hx hb hd (k0 rfl rfl)
    · cases g
  | land =>
    simp only [gi_go] at g
    split at g
    · cases g
      exact lv_land hx hb hd (k0 rfl rfl)
    · cases g
  | lor =>
    simp only [gi_go] at g
    split at g
    · cases g
      exact lv_lor hx hb hd (k0 rfl rfl)
    · cases g
  | iushr =>
    simp only [gi_go] at g
    split at g
    · cases g
      exact lv_iushr hx hb hd rfl (k0 rfl rfl)
    · cases g
  | lshl =>
    simp only [gi_go] at g
    split at g
    · cases g
      exact lv_lshl hx hb hd rfl (k0 rfl rfl)
    · cases g
  | lshr =>
    simp only [gi_go] at g
    split at g
    · cases g
      exact lv_lshr hx hb hd rfl (k0 rfl rfl)
    · cases g
  | lushr =>
    simp only [gi_go] at g
    split at g
    · cases g
      exact lv_lushr hx hb hd rfl (k0 rfl rfl)
    · cases g
  | i2l =>
    simp only [gi_go] at g
    split at g
    · cases g
      exact lv_i2l hx hb hd rfl (k0 rfl rfl)
    · cases g
  | l2i =>
    simp only [gi_go] at g
    split at g
    · cases g
      exact lv_l2i hx hb hd rfl (k0 rfl rfl)
    · cases g
  | lcmp =>
    simp only [gi_go] at g
    split at g
    · cases g
      exact W.lcmp hx hb hd (k0 rfl rfl)
    · cases g
  | idiv =>
    simp only [gi_go] at g
    split at g
    · split at g
      · cases g
      · rename_i hne
        cases g
        exact lv_idiv hx hb hd hne (k0 rfl rfl)
    · cases g
  | irem =>
    simp only [gi_go] at g
    split at g
    · split at g
      · cases g
      · rename_i hne
        cases g
        exact lv_irem hx hb hd hne (k0 rfl rfl)
    · cases g
  | ldiv =>
    simp only [gi_go] at g
    split at g
    · split at g
      · cases g
      · rename_i hne
        cases g
        exact lv_ldiv hx hb hd hne (k0 rfl rfl)
    · cases g
  | lrem =>
    simp only [gi_go] at g
    split at g
    · split at g
      · cases g
      · rename_i hne
        cases g
        exact lv_lrem hx hb hd hne (k0 rfl rfl)
    · cases g
  | dup =>
    simp only [gi_go] at g
    split at g
    · cases g
      exact lv_dup hx hb hd rfl (k0 rfl rfl)
    · cases g
      exact lv_dup hx hb hd rfl (k0 rfl rfl)
    · cases g
  | dup2 =>
    simp only [gi_go] at g
    split at g
    · cases g
      exact lv_dup2_11 hx hb hd rfl rfl (k0 rfl rfl)
    · cases g
  | pop =>
    simp only [gi_go] at g
    split at g
    · cases g
      exact lv_pop hx hb hd rfl (k0 rfl rfl)
    · cases g
  | goto off =>
    simp only [gi_okI, decide_eq_true_eq] at hok
    cases g
    exact lv_goto hx hb hd hok (k0 rfl rfl)
  | ifCond cc off =>
    simp only [gi_okI, decide_eq_true_eq] at hok
    cases cc with
    | eq =>
      simp only [gi_go] at g
      split at g
      · refine lv_if_eq hx hb hd hok (fun q => ?_) (fun q => ?_)
        · rw [if_pos q] at g
          cases g
          exact k0 rfl rfl
        · rw [if_neg q] at g
          cases g
          exact k0 rfl rfl
      · cases g
    | ne =>
      simp only [gi_go] at g
      split at g
      · refine lv_if_ne hx hb hd hok (fun q => ?_) (fun q => ?_)
        · rw [if_neg q] at g
          cases g
          exact k0 rfl rfl
        · rw [if_pos q] at g
          cases g
          exact k0 rfl rfl
      · cases g
    | lt =>
      simp only [gi_go] at g
      split at g
      · refine lv_if_lt hx hb hd hok (fun q => ?_) (fun q => ?_)
        · rw [if_pos q] at g
          cases g
          exact k0 rfl rfl
        · rw [if_neg q] at g
          cases g
          exact k0 rfl rfl
      · cases g
    | ge =>
      simp only [gi_go] at g
      split at g
      · refine lv_if_ge hx hb hd hok (fun q => ?_) (fun q => ?_)
        · rw [if_pos q] at g
          cases g
          exact k0 rfl rfl
        · rw [if_neg q] at g
          cases g
          exact k0 rfl rfl
      · cases g
    | gt =>
      simp only [gi_go] at g
      split at g
      · refine lv_if_gt hx hb hd hok (fun q => ?_) (fun q => ?_)
        · rw [if_pos q] at g
          cases g
          exact k0 rfl rfl
        · rw [if_neg q] at g
          cases g
          exact k0 rfl rfl
      · cases g
    | le =>
      simp only [gi_go] at g
      split at g
      · refine lv_if_le hx hb hd hok (fun q => ?_) (fun q => ?_)
        · rw [if_pos q] at g
          cases g
          exact k0 rfl rfl
        · rw [if_neg q] at g
          cases g
          exact k0 rfl rfl
      · cases g
  | if_icmp cc off =>
    simp only [gi_okI, decide_eq_true_eq] at hok
    cases cc with
    | eq =>
      simp only [gi_go] at g
      split at g
      · refine lv_icmp_eq hx hb hd hok (fun q => ?_) (fun q => ?_)
        · rw [if_pos q] at g
          cases g
          exact k0 rfl rfl
        · rw [if_neg q] at g
          cases g
          exact k0 rfl rfl
      · cases g
    | ne =>
      simp only [gi_go] at g
      split at g
      · refine lv_icmp_ne hx hb hd hok (fun q => ?_) (fun q => ?_)
        · rw [if_neg q] at g
          cases g
          exact k0 rfl rfl
        · rw [if_pos q] at g
          cases g
          exact k0 rfl rfl
      · cases g
    | lt =>
      simp only [gi_go] at g
      split at g
      · refine lv_icmp_lt hx hb hd hok (fun q => ?_) (fun q => ?_)
        · rw [if_pos q] at g
          cases g
          exact k0 rfl rfl
        · rw [if_neg q] at g
          cases g
          exact k0 rfl rfl
      · cases g
    | ge =>
      simp only [gi_go] at g
      split at g
      · refine lv_icmp_ge hx hb hd hok (fun q => ?_) (fun q => ?_)
        · rw [if_pos q] at g
          cases g
          exact k0 rfl rfl
        · rw [if_neg q] at g
          cases g
          exact k0 rfl rfl
      · cases g
    | gt =>
      simp only [gi_go] at g
      split at g
      · refine lv_icmp_gt hx hb hd hok (fun q => ?_) (fun q => ?_)
        · rw [if_pos q] at g
          cases g
          exact k0 rfl rfl
        · rw [if_neg q] at g
          cases g
          exact k0 rfl rfl
      · cases g
    | le =>
      simp only [gi_go] at g
      split at g
      · refine lv_icmp_le hx hb hd hok (fun q => ?_) (fun q => ?_)
        · rw [if_pos q] at g
          cases g
          exact k0 rfl rfl
        · rw [if_neg q] at g
          cases g
          exact k0 rfl rfl
      · cases g
  | ifnonnull off =>
    simp only [gi_okI, decide_eq_true_eq] at hok
    simp only [gi_go] at g
    split at g
    · cases g
      exact lv_ifnonnull hx hb hd hok (k0 rfl rfl)
    · cases g
      exact lv_ifnonnullN hx hb hd (k0 rfl rfl)
    · cases g
  | tableswitch dflt lo hi offs =>
    simp only [gi_go] at g
    split at g
    · split at g
      · rename_i hq
        obtain ⟨q1, rfl, rfl, rfl⟩ := gi_kp_inv g
        exact lv_tableOut hx hb hd hq (gi_tg_inv q1) (k0 rfl rfl)
      · rename_i hq
        split at g
        · cases g
        · rename_i off ho
          obtain ⟨q1, rfl, rfl, rfl⟩ := gi_kp_inv g
          exact lv_tableIn hx hb hd (fun z => hq (Or.inl z)) (fun z => hq (Or.inr z)) ho (gi_tg_inv q1) (k0 rfl rfl)
    · cases g
  | lookupswitch dflt ps =>
    simp only [gi_okI] at hok
    simp only [gi_go] at g
    split at g
    · obtain ⟨q1, rfl, rfl, rfl⟩ := gi_kp_inv g
      exact lv_lookup hx hb hd hok rfl (gi_tg_inv q1) (k0 rfl rfl)
    · cases g
  | getfield i =>
    simp only [gi_okI] at hok
    split at hok
    · cases hok
    · rename_i q hq
      simp only [Bool.and_eq_true, decide_eq_true_eq] at hok
      simp only [gi_go] at g
      split at g
      · split at g
        · cases g
        · rename_i z hz
          cases g
          obtain ⟨fs, g1, g2⟩ := gi_fg_inv hz
          obtain ⟨k, rfl⟩ := gi_h0_ne h0 g1 (fun _ q => by cases q)
          exact va_get hx hb hts (gi_win _ _ hq) hown hK hP k (gc_w_get g1) hq b hok.1 (hts _ (gi_in_mem hok.2)) (fun _ h9 => h9) (gc_map_get g2) hd (k0 rfl rfl)
      · cases g
  | putfield i =>
    simp only [gi_okI] at hok
    split at hok
    · cases hok
    · rename_i q hq
      simp only [Bool.and_eq_true, Bool.or_eq_true, Bool.not_eq_true', decide_eq_true_eq] at hok
      obtain ⟨⟨⟨o1, o2⟩, o3⟩, o4⟩ := hok
      simp only [gi_go] at g
      split at g
      · split at g
        · rename_i hkd
          obtain ⟨q1, rfl, rfl, rfl⟩ := gi_kh_inv g
          obtain ⟨fs, g1, g2, q2⟩ := gi_fp_inv q1
          obtain ⟨k, rfl⟩ := gi_h0_ne h0 g1 (fun _ q => by cases q)
          obtain ⟨f1, f2⟩ := gi_kd_fit ad hkd o3
          have e2 : ∀ z, gc_e ct ad (.inr (a, fs.set b z)) = .inr (a, (fs.map (gc_v ad)).set b (gc_v ad z)) := fun z => by simp only [gc_e, List.map_set]
          cases hf : (q.2.1 b).2.2.2 with
          | false =>
            refine va_put hx hb hts (gi_win _ _ hq) (gi_tys a) (gi_tyok _ _ hq) (gi_nmok _ _ hq) hown hK hP hD hS k (gc_w_get g1) hq b o1 (hts _ (gi_in_mem o2)) (fun _ h9 => h9) hf (gi_tyok _ _ hq b o1) f1 f2 (by rw [List.length_map]; exact g2) hd (fun H1 locs1 hP1 hD1 hS1 => ?_)
            exact k3 rfl q2 g1 rfl H1 locs1 (by rw [e2]; exact hP1) (by rw [e2]; exact hD1) hS1
          | true =>
            have o5 : (gi_name M).name = "<init>" ∧ (q.2.1 b).1 = gi_own M := by
              rcases o4 with o4 | o4
              · rw [hf] at o4; cases o4
              · exact o4
            refine va_putF hx hb hts (gi_win _ _ hq) (gi_tys a) (gi_tyok _ _ hq) (gi_nmok _ _ hq) hown hK hP hD hS k (gc_w_get g1) hq b o1 (hts _ (gi_in_mem o2)) (fun _ h9 => h9) hf (hnm.trans o5.1) o5.2 (gi_tyok _ _ hq b o1) f1 f2 (by rw [List.length_map]; exact g2) hd (fun H1 locs1 hP1 hD1 hS1 => ?_)
            exact k3 rfl q2 g1 rfl H1 locs1 (by rw [e2]; exact hP1) (by rw [e2]; exact hD1) hS1
        · cases g
      · cases g
  | iaload =>
    simp only [gi_okI, Bool.and_eq_true, Bool.or_eq_true, decide_eq_true_eq] at hok
    simp only [gi_go] at g
    split at g
    · split at g
      · cases g
      · rename_i z hz
        cases g
        obtain ⟨n, f, g1, g2, rfl⟩ := gi_ai_inv hz
        rcases hok with rfl | ⟨rfl, rfl⟩
        · obtain ⟨k, rfl⟩ := gi_h0_ne h0 g1 (fun _ q => by cases q)
          exact va_iald hx hb hK hP k 0 (gc_w_get g1) rfl g2 hd (k0 rfl rfl)
        · have := h0.2 _ _ g1
          subst this
          obtain ⟨c1, c2⟩ := hsc rfl
          rw [c2] at g1
          cases g1
          obtain ⟨x1, x2, x3⟩ := hX rfl
          simp only [List.map_cons, gc_v, c1]
          exact va_sld hx hb x1 x2 x3 hS g2 hd (k0 rfl rfl)
    · cases g
  | arraylength =>
    simp only [gi_okI, Bool.and_eq_true, Bool.or_eq_true, decide_eq_true_eq] at hok
    simp only [gi_go] at g
    split at g
    · split at g
      · cases g
      · rename_i z hz
        cases g
        obtain ⟨f, g1⟩ := gi_an_inv hz
        rcases hok with rfl | ⟨rfl, rfl⟩
        · obtain ⟨k, rfl⟩ := gi_h0_ne h0 g1 (fun _ q => by cases q)
          exact va_alen hx hb hK hP k 0 (gc_w_get g1) (ty := .int) rfl rfl hd (k0 rfl rfl)
        · have := h0.2 _ _ g1
          subst this
          obtain ⟨c1, c2⟩ := hsc rfl
          rw [c2] at g1
          cases g1
          obtain ⟨x1, x2, x3⟩ := hX rfl
          simp only [List.map_cons, gc_v, c1]
          exact va_slen hx hb x1 x2 x3 hS hd (k0 rfl rfl)
    · cases g
  | baload =>
    simp only [gi_go] at g
    split at g
    · split at g
      · cases g
      · rename_i z hz
        cases g
        obtain ⟨n, f, g1, g2, rfl⟩ := gi_ai_inv hz
        obtain ⟨k, rfl⟩ := gi_h0_ne h0 g1 (fun _ q => by cases q)
        exact va_zald hx hb hK hP k 2 (gc_w_get g1) rfl g2 hd (k0 rfl rfl)
    · cases g
  | laload =>
    simp only [gi_go] at g
    split at g
    · split at g
      · cases g
      · rename_i z hz
        cases g
        obtain ⟨n, f, g1, g2, rfl⟩ := gi_al_inv hz
        obtain ⟨k, rfl⟩ := gi_h0_ne h0 g1 (fun _ q => by cases q)
        exact va_lald hx hb hK hP k 1 (gc_w_get g1) rfl g2 hd (k0 rfl rfl)
    · cases g
  | aaload =>
    simp only [gi_go] at g
    split at g
    · split at g
      · cases g
      · rename_i hz
        cases g
        obtain ⟨n, f, g1, g2, g3⟩ := gi_aq_inv hz
        obtain ⟨k, rfl⟩ := gi_h0_ne h0 g1 (fun _ q => by cases q)
        refine va_aldq hx hb hK hP k 3 (gc_w_get g1) rfl g2 hd ?_
        rw [← g3]
        exact k0 rfl rfl
      · rename_i z hz
        cases g
        obtain ⟨n, f, g1, g2, g3⟩ := gi_aq_inv hz
        obtain ⟨k, rfl⟩ := gi_h0_ne h0 g1 (fun _ q => by cases q)
        refine va_aldq hx hb hK hP k 3 (gc_w_get g1) rfl g2 hd ?_
        rw [← g3]
        exact k0 rfl rfl
    · cases g
  | iastore =>
    simp only [gi_go] at g
    split at g
    · obtain ⟨q1, rfl, rfl, rfl⟩ := gi_kh_inv g
      obtain ⟨n, f, g1, g2, q2⟩ := gi_pi_inv q1
      obtain ⟨k, rfl⟩ := gi_h0_ne h0 g1 (fun _ q => by cases q)
      exact va_iast hx hb hK hP hD hS k 0 (gc_w_get g1) rfl g2 hd (fun H1 locs1 hP1 hD1 hS1 => k3 rfl q2 g1 rfl H1 locs1 hP1 hD1 hS1)
    · cases g
  | bastore =>
    simp only [gi_go] at g
    split at g
    · split at g
      · rename_i x i o st2 hbit
        obtain ⟨q1, rfl, rfl, rfl⟩ := gi_kh_inv g
        obtain ⟨n, f, g1, g2, q2⟩ := gi_pi_inv q1
        obtain ⟨k, rfl⟩ := gi_h0_ne h0 g1 (fun _ q => by cases q)
        have en : vp_nar .boolean x = x := by rcases hbit with rfl | rfl <;> decide
        refine va_zast hx hb hK hP hD hS k 2 (gc_w_get g1) rfl g2 hd (fun H1 locs1 hP1 hD1 hS1 => ?_)
        rw [en] at hP1 hD1
        exact k3 rfl q2 g1 rfl H1 locs1 hP1 hD1 hS1
      · cases g
    · cases g
  | lastore =>
    simp only [gi_go] at g
    split at g
    · obtain ⟨q1, rfl, rfl, rfl⟩ := gi_kh_inv g
      obtain ⟨n, f, g1, g2, q2⟩ := gi_pl_inv q1
      obtain ⟨k, rfl⟩ := gi_h0_ne h0 g1 (fun _ q => by cases q)
      exact va_last hx hb hK hP hD hS k 1 (gc_w_get g1) rfl g2 hd (fun H1 locs1 hP1 hD1 hS1 => k3 rfl q2 g1 rfl H1 locs1 hP1 hD1 hS1)
    · cases g
  | aastore =>
    simp only [gi_okI, decide_eq_true_eq] at hok
    subst hok
    simp only [gi_go] at g
    split at g
    · obtain ⟨q1, rfl, rfl, rfl⟩ := gi_kh_inv g
      obtain ⟨n, f, g1, g2, g3, q2⟩ := gi_pq_inv q1
      obtain ⟨fs, g4⟩ := gi_is_inv g3
      obtain ⟨k, rfl⟩ := gi_h0_ne h0 g1 (fun _ q => by cases q)
      obtain ⟨k2, rfl⟩ := gi_h0_ne h0 g4 (fun _ q => by cases q)
      refine va_astq hx hb hK hP hD hS k 3 k2 0 (r := (RX0, TX0, 15)) (gc_w_get g1) rfl (gc_w_get g4) rfl g2 hd (fun H1 locs1 hP1 hD1 hS1 => ?_)
      have e3 : ∀ (i x : Nat), gc_e ct ad (.inl (3, n, .inr (.inr (.inr (.inr (va_up f i (some x))))))) = .inl (ct 3, n, .inr (.inr (.inr (.inr (va_up (fun j => (f j).map ad) i (some (ad x))))))) := by
        intro i x
        simp only [gc_e, gc_a]
        have : (fun j => (va_up f i (some x) j).map ad) = va_up (fun j => (f j).map ad) i (some (ad x)) := by
          funext j
          simp only [va_up]
          split <;> rfl
        rw [this]
      exact k3 rfl q2 g1 rfl H1 locs1 (by rw [e3]; exact hP1) (by rw [e3]; exact hD1) hS1
    · cases g
  | newarray t =>
    simp only [gi_okI, Bool.and_eq_true, Bool.or_eq_true, decide_eq_true_eq] at hok
    simp only [gi_go] at g
    split at g
    · rename_i n st2
      split at g
      · rename_i hn
        cases g
        have hc1 : cells + 1 ≤ R.cells := by simp at hRc; omega
        have hs1 : slots + n.toNatClampNeg ≤ R.slots := by
          rw [gi_slots_app] at hRs
          have : gi_sl (gi_na a n.toNatClampNeg) = n.toNatClampNeg := by unfold gi_na; split <;> rfl
          omega
        have fin : ∀ {ty : FieldType} {x : va_E} {y : vp_A} {t0 : Nat}, gi_na a n.toNatClampNeg = x → (∀ ad2, gc_e ct ad2 x = .inl (ct t0, y)) → gi_sl x = n.toNatClampNeg → (∀ cA, va_RA s cA ty → cA = ct t0) → ∀ (q : Nat) (cA : ClassId) (H1 : Heap), va_K D gi_cls (gi_tyl ct ++ [(cA, ty)]) s → va_P D gi_cls (gc_w ct ad h ++ [(q, .inl (cA, y))]) H1 → va_D A (gc_w ct ad h ++ [(q, .inl (cA, y))]) → va_S A s.heap H1 locs → W p l e R s m args below meth c H1 locs (cells + 1) (slots + n.toNatClampNeg) Q (F0 m (pc + 2) ls (.ref q :: st2.map (gc_v ad))) := by
          intro ty x y t0 r1 r2 r3 r4 q cA H1 hK1 hP1 hD1 hS1
          have := r4 cA (hK1.2 4 _ rfl).2
          subst this
          exact k4 rfl (by rw [r1]) rfl (gi_ws_cons.mp ws).2 r2 r3 q H1 hP1 hD1 hS1
        rcases hok with (⟨⟨rfl, rfl⟩, o1⟩ | ⟨⟨rfl, rfl⟩, o1⟩) | ⟨⟨rfl, rfl⟩, o1⟩
        · exact va_newa (atype := .int) hx hb (hts _ (gi_in_mem o1)) rfl hK hP hD hS hA (a0 := (n.toNatClampNeg, .inl (fun _ => 0))) (fun cA => vp_cell_i _ _ _) hn.1 rfl (by show _ * 4 ≤ _; omega) hc1 hs1 hd (fin (ty := .int) (t0 := 0) rfl (fun _ => rfl) rfl (fun cA z => Option.some.inj (z.symm.trans (hK.2 0 _ rfl).2)))
        · exact va_newa (atype := .long) hx hb (hts _ (gi_in_mem o1)) rfl hK hP hD hS hA (a0 := (n.toNatClampNeg, .inr (.inl (fun _ => 0)))) (fun cA => vp_cell_l _ _ _) hn.1 rfl (by show _ * 8 ≤ _; omega) hc1 hs1 hd (fin (ty := .long) (t0 := 1) rfl (fun _ => rfl) rfl (fun cA z => Option.some.inj (z.symm.trans (hK.2 1 _ rfl).2)))
        · exact va_newa (atype := .boolean) hx hb (hts _ (gi_in_mem o1)) rfl hK hP hD hS hA (a0 := (n.toNatClampNeg, .inl (fun _ => 0))) (fun cA => vp_cell_i _ _ _) hn.1 rfl (by show _ * 1 ≤ _; omega) hc1 hs1 hd (fin (ty := .boolean) (t0 := 2) rfl (fun _ => rfl) rfl (fun cA z => Option.some.inj (z.symm.trans (hK.2 2 _ rfl).2)))
      · cases g
    · cases g
  | anewarray i =>
    simp only [gi_okI] at hok
    simp only [gi_go] at g
    split at g
    · rename_i n st2
      split at g
      · rename_i hn
        cases g
        have hc1 : cells + 1 ≤ R.cells := by simp at hRc; omega
        have hs1 : slots + n.toNatClampNeg ≤ R.slots := by
          rw [gi_slots_app] at hRs
          have : gi_sl (gi_na 3 n.toNatClampNeg) = n.toNatClampNeg := rfl
          omega
        refine va_newq hx hb hown (hts _ (gi_in_mem hok)) hNW.2 hK hP hD hS hA hn.1 rfl (by omega) hc1 hs1 hd (fun q cA H1 hK1 hP1 hD1 hS1 => ?_)
        have : cA = ct 3 := by
          obtain ⟨_, _, _, _, _, u1⟩ := (hK1.2 4 _ rfl).2
          obtain ⟨_, _, _, _, _, u2⟩ := (hK.2 3 _ rfl).2
          exact Option.some.inj (u1.symm.trans u2)
        subst this
        exact k4 (x := gi_na 3 n.toNatClampNeg) rfl rfl rfl (gi_ws_cons.mp ws).2 (fun _ => rfl) rfl q H1 hP1 hD1 hS1
      · cases g
    · cases g
  | new i =>
    simp only [gi_okI] at hok
    split at hok
    · cases hok
    · rename_i q hq
      simp only [Bool.and_eq_true] at hok
      cases g
      have hN : gi_N a = q.2.2 := by simp only [gi_N, hq]
      have hc1 : cells + 1 ≤ R.cells := by simp at hRc; omega
      have hs1 : slots + q.2.2 ≤ R.slots := by
        rw [gi_slots_app] at hRs
        have : gi_sl (.inr (a, gi_df a)) = q.2.2 := hN
        omega
      refine va_new (ci := a) (fs := gi_df a) hx hb hts (gi_win _ _ hq) (gi_tys a) (gi_tyok _ _ hq) hown (hts _ (gi_in_mem hok.1.1)) (hts _ (gi_in_mem hok.1.2)) (hts _ (gi_in_mem hok.2)) hK hP hD hS hA hq (gi_dfok _ _ hq).1 hc1 hs1 hd (fun q1 H1 hP1 hD1 hS1 => ?_)
      refine k4 (x := .inr (a, gi_df a)) rfl rfl rfl ws (fun ad2 => ?_) hN q1 H1 hP1 hD1 hS1
      show (Sum.inr (a, (gi_df a).map (gc_v ad2)) : va_E) = .inr (a, gi_df a)
      rw [List.map_congr_left (g := id) (fun v hv => ?_), List.map_id]
      have := List.all_eq_true.mp (gi_dfok _ _ hq).2 v hv
      cases v <;> first | rfl | cases this
  | invokestatic i =>
    simp only [gi_go] at g
    split at g
    · rename_i h9
      simp only [gi_okI, h9, Bool.and_eq_true, decide_eq_true_eq] at hok
      split at g
      · obtain ⟨q1, rfl, rfl, rfl⟩ := gi_kh_inv g
        obtain ⟨n0, f, n1, g', g1, g2, c1, c2, c3, c4, c5, q2⟩ := gi_cp_inv q1
        obtain ⟨k, rfl⟩ := gi_h0_ne h0 g1 (fun _ q => by cases q)
        obtain ⟨k', rfl⟩ := gi_h0_ne h0 g2 (fun _ q => by cases q)
        exact va_copyi (ty := .int) hx hb (hml.trans hl.2.1.symm) hown (hts _ (gi_in_mem hok.1.1.1.1)) (hts _ (gi_in_mem hok.1.1.1.2)) (hts _ (gi_in_mem hok.1.1.2)) (hts _ (gi_in_mem hok.1.2)) hK hP hD hS k k' 0 0 (gc_w_get g1) (gc_w_get g2) rfl rfl rfl c1 c2 c3 c4 c5 (fun _ _ => rfl) (by omega) (by show 0 + (7 + 11) ≤ _; omega) hd (fun H1 locs1 hP1 hD1 hS1 => k3 rfl q2 g2 rfl H1 locs1 hP1 hD1 hS1)
      · cases g
    · exact (gi_call_ninl g).elim
  | invokevirtual i =>
    simp only [gi_go] at g
    split at g
    · exact (gi_callV_ninl g).elim
    · cases g
  | invokespecial i =>
    simp only [gi_go] at g
    split at g
    · rename_i h9
      simp only [gi_okI, h9, Bool.and_eq_true, decide_eq_true_eq] at hok
      split at g
      · cases g
        refine W.objInit hx hb hown (hts _ (gi_in_mem hok.1.1.1)) (hts _ (gi_in_mem hok.1.1.2)) (hts _ (gi_in_mem hok.1.2)) rfl (hl.2.1.trans hml.symm) rfl hd (by omega) (by show 2 * 0 + 0 + 12 ≤ _; omega) ?_
        exact k0 rfl rfl
      · cases g
    · split at g
      · cases g
      · split at g
        · cases g
        · exact (gi_call_ninl g).elim
  | ireturn =>
    simp only [gi_go] at g
    split at g
    · split at g <;> cases g
    · cases g
  | lreturn | return_ =>
    simp only [gi_go] at g
    split at g <;> cases g
  | _ => cases g
end GST
end
section
/-! FROM THE INTERPRETER TO THE MACHINE, 4: calls, returns, the whole -/
def gi_rt (ret : Option FieldType) (ins : Instr) (rv : Option Value) : Prop := (ins = .ireturn ∧ ∃ x, rv = some (.int x) ∧ gi_rok ret x = true) ∨ (ins = .lreturn ∧ ret = some .long ∧ ∃ x, rv = some (.long x)) ∨ (ins = .return_ ∧ ret = none ∧ rv = none)
set_option maxHeartbeats 4000000 in
theorem gi_go_ret {ret : Option FieldType} {r : gi_I} {pc : Nat} {lv : gi_Lv} {st : List Value} {h : gi_H} {rv : Option Value} (e : gi_go gi_df ret r pc lv st h = some (.inr (.inl rv))) : gi_rt ret r.1 rv ∧ st = rv.toList ∧ gi_len r.1 r.2.2.1 = 1 := by
  obtain ⟨ins, a, b, v⟩ := r
  cases ins with
  | ireturn =>
    simp only [gi_go] at e
    split at e
    · split at e
      · rename_i hq; cases e; exact ⟨Or.inl ⟨rfl, _, rfl, hq⟩, rfl, rfl⟩
      · cases e
    · cases e
  | lreturn =>
    simp only [gi_go] at e
    split at e
    · cases e; exact ⟨Or.inr (Or.inl ⟨rfl, rfl, _, rfl⟩), rfl, rfl⟩
    · cases e
  | return_ =>
    simp only [gi_go] at e
    split at e
    · cases e; exact ⟨Or.inr (Or.inr ⟨rfl, rfl, rfl⟩), rfl, rfl⟩
    · cases e
  | ifCond c off => cases c <;> (simp only [gi_go] at e; repeat' split at e) <;> cases e
  | if_icmp c off => cases c <;> (simp only [gi_go] at e; repeat' split at e) <;> cases e
  | _ =>
    exfalso
    first | (cases e; done) | (simp only [gi_go, gi_kl, gi_kh, gi_kp, gi_call, gi_callV] at e; (repeat' split at e) <;> cases e)
theorem gi_tk_spec : ∀ (n : Nat) (acc st as rest : List Value), gi_tk n acc st = some (as, rest) → as.length = n + acc.length ∧ as.reverse ++ rest = acc.reverse ++ st := by
  intro n
  induction n with
  | zero => intro acc st as rest e; cases e; exact ⟨by omega, rfl⟩
  | succ n ih =>
    intro acc st as rest e
    cases st with
    | nil => cases e
    | cons v t =>
      obtain ⟨a1, a2⟩ := ih _ _ _ _ e
      refine ⟨by simp at a1; omega, ?_⟩
      rw [a2]
      simp
theorem gi_hd_inv {as : List Value} {o : Nat} (e : gi_hd as = some o) : ∃ t, as = .ref o :: t := by
  unfold gi_hd at e
  split at e
  · cases e; exact ⟨_, rfl⟩
  · cases e
theorem gi_call_inv {a b j : Nat} {st as rest : List Value} (e : gi_call a b st = some (.inr (.inr (j, as, rest)))) : j = a ∧ gi_tk b [] st = some (as, rest) ∧ gi_cat rest ≤ 8 := by
  unfold gi_call at e
  split at e
  · cases e
  · rename_i as' rest' hq
    split at e
    · rename_i hc; cases e; exact ⟨rfl, hq, hc⟩
    · cases e
set_option maxHeartbeats 4000000 in
theorem gi_go_call {ret : Option FieldType} {r : gi_I} {pc : Nat} {lv : gi_Lv} {st : List Value} {h : gi_H} {j : Nat} {as rest : List Value} (e : gi_go gi_df ret r pc lv st h = some (.inr (.inr (j, as, rest)))) :
    j = r.2.1 ∧ as.length = r.2.2.1 ∧ st = as.reverse ++ rest ∧ gi_cat rest ≤ 8 ∧ ((∃ i, r.1 = .invokestatic i ∧ Nat.beq r.2.1 999 = false) ∨ (∃ i ci o t, r.1 = .invokevirtual i ∧ r.2.2.2 = .ref ci ∧ as = .ref o :: t ∧ gi_is h o ci = true) ∨ (∃ i o t, r.1 = .invokespecial i ∧ Nat.beq r.2.1 998 = false ∧ as = .ref o :: t)) := by
  obtain ⟨ins, a, b, v⟩ := r
  cases ins with
  | invokestatic i =>
    simp only [gi_go] at e
    split at e
    · split at e
      · simp only [gi_kh] at e; split at e <;> cases e
      · cases e
    · rename_i h9
      obtain ⟨rfl, e1, e2⟩ := gi_call_inv e
      obtain ⟨a1, a2⟩ := gi_tk_spec _ _ _ _ _ e1
      exact ⟨rfl, a1, by rw [a2]; rfl, e2, Or.inl ⟨i, rfl, h9⟩⟩
  | invokevirtual i =>
    simp only [gi_go] at e
    split at e
    · rename_i ci
      unfold gi_callV at e
      split at e
      · cases e
      · rename_i as' rest' hq
        split at e
        · cases e
        · rename_i o ho
          split at e
          · rename_i his
            split at e
            · rename_i hc
              cases e
              obtain ⟨a1, a2⟩ := gi_tk_spec _ _ _ _ _ hq
              obtain ⟨t, rfl⟩ := gi_hd_inv ho
              exact ⟨rfl, a1, by rw [a2]; rfl, hc, Or.inr (Or.inl ⟨i, ci, o, t, rfl, rfl, rfl, his⟩)⟩
            · cases e
          · cases e
    · cases e
  | invokespecial i =>
    simp only [gi_go] at e
    split at e
    · split at e <;> cases e
    · rename_i h9
      split at e
      · cases e
      · rename_i as' rest' hq
        split at e
        · cases e
        · rename_i o ho
          obtain ⟨rfl, e1, e2⟩ := gi_call_inv e
          rw [e1] at hq
          cases hq
          obtain ⟨a1, a2⟩ := gi_tk_spec _ _ _ _ _ e1
          obtain ⟨t, rfl⟩ := gi_hd_inv ho
          exact ⟨rfl, a1, by rw [a2]; rfl, e2, Or.inr (Or.inr ⟨i, o, t, rfl, h9, rfl⟩)⟩
  | ifCond c off => cases c <;> (simp only [gi_go] at e; repeat' split at e) <;> cases e
  | if_icmp c off => cases c <;> (simp only [gi_go] at e; repeat' split at e) <;> cases e
  | _ =>
    exfalso
    first | (cases e; done) | (simp only [gi_go, gi_kl, gi_kh, gi_kp] at e; (repeat' split at e) <;> cases e)
def gi_nr (rv : Option Value) : Prop := ∀ k, rv ≠ some (.ref k)
theorem gi_rt.nr {ret : Option FieldType} {ins : Instr} {rv : Option Value} (h : gi_rt ret ins rv) : gi_nr rv := by
  rcases h with ⟨-, x, rfl, -⟩ | ⟨-, -, x, rfl⟩ | ⟨-, -, rfl⟩ <;> (intro k z; cases z)
theorem gi_nr.ws {rv : Option Value} (h : gi_nr rv) (n : Nat) : gi_ws n rv.toList := by
  intro v hv
  cases rv with
  | none => cases hv
  | some x =>
    simp at hv
    subst hv
    cases v with
    | ref k => exact absurd rfl (h k)
    | _ => trivial
theorem gi_nr.map {rv : Option Value} (h : gi_nr rv) (ad : Nat → Nat) : rv.toList.map (gc_v ad) = rv.toList := by
  cases rv with
  | none => rfl
  | some x =>
    cases x with
    | ref k => exact absurd rfl (h k)
    | _ => rfl
theorem gi_ws_app {n : Nat} {a b : List Value} : gi_ws n (a ++ b) ↔ gi_ws n a ∧ gi_ws n b := by
  constructor
  · intro h; exact ⟨fun v hv => h v (List.mem_append_left _ hv), fun v hv => h v (List.mem_append_right _ hv)⟩
  · rintro ⟨h1, h2⟩ v hv
    rcases List.mem_append.mp hv with q | q
    · exact h1 v q
    · exact h2 v q
theorem gi_ws_rev {n : Nat} {a : List Value} (h : gi_ws n a.reverse) : gi_ws n a := fun v hv => h v (List.mem_reverse.mpr hv)
theorem gi_ex_P {pr : Nat → gi_M} (hpr : ∀ j, gi_okM false pr (pr j)) : ∀ (n : Nat) (top : Bool) (M : gi_M) (pc : Nat) (lv : gi_Lv) (st : List Value) (h : gi_H) (rv : Option Value) (hf : gi_H), gi_okM top pr M → gi_wh h → gi_wl h.length lv → gi_ws h.length st → gi_h0 h → gi_ex pr gi_df n M pc lv st h = some (rv, hf) → gi_wh hf ∧ gi_nr rv ∧ gi_h0 hf ∧ h.length ≤ hf.length ∧ gi_slots h ≤ gi_slots hf ∧ hf[0]? = h[0]? := by
  intro n
  induction n with
  | zero => intro top M pc lv st h rv hf _ _ _ _ _ e; cases e
  | succ n ih =>
    intro top M pc lv st h rv hf hM w l s h0 e
    rw [gi_ex] at e
    cases h1 : gi_look (gi_tab M) pc with
    | none => rw [h1] at e; cases e
    | some x =>
      rw [h1] at e
      simp only at e
      obtain ⟨hd, hok⟩ := gi_ok_at hM h1
      cases h2 : gi_go gi_df (gi_ret M) x pc lv st h with
      | none => rw [h2] at e; cases e
      | some o =>
        rw [h2] at e
        match o, h2, e with
        | .inl (pc', lv', st', h'), h2, e =>
          obtain ⟨p1, p2, p3, p4, p5, p6, p7, p8⟩ := gi_go_P hok w l s h0 h2
          obtain ⟨q1, q2, q3, q4, q5, q6⟩ := ih top M pc' lv' st' h' rv hf hM p1 p2 p3 p4 e
          exact ⟨q1, q2, q3, by omega, by omega, by rw [q6, p8]⟩
        | .inr (.inl rv'), h2, e =>
          cases e
          exact ⟨w, (gi_go_ret h2).1.nr, h0, Nat.le_refl _, Nat.le_refl _, rfl⟩
        | .inr (.inr (j, as, rest)), h2, e =>
          simp only at e
          obtain ⟨-, -, c3, -, -⟩ := gi_go_call h2
          rw [c3] at s
          obtain ⟨s1, s2⟩ := gi_ws_app.mp s
          cases h4 : Nat.ble (gi_en0 as).length (gi_maxL (pr j)) with
          | false => rw [h4] at e; cases e
          | true =>
            rw [h4] at e
            simp only at e
            cases h3 : gi_ex pr gi_df n (pr j) 0 (gi_en (gi_maxL (pr j)) as) [] h with
            | none => rw [h3] at e; cases e
            | some z =>
              rw [h3] at e
              obtain ⟨w1, h1'⟩ := z
              obtain ⟨q1, q2, q3, q4, q5, q6⟩ := ih false (pr j) 0 _ [] h w1 h1' (hpr j) w (gi_wl.entry (gi_ws_rev s1)) gi_ws_nil h0 h3
              obtain ⟨r1, r2, r3, r4, r5, r6⟩ := ih top M (pc + 3) lv _ h1' rv hf hM q1 (l.mono q4) (gi_ws_app.mpr ⟨q2.ws _, s2.mono q4⟩) q3 e
              exact ⟨r1, r2, r3, by omega, by omega, by rw [r6, q6]⟩
/-- a method's start and end, in the abstract heap's words -/
def gi_B (D : va_G) (ct : Nat → ClassId) (ad : Nat → Nat) (h : gi_H) (sz : Nat) (U : State) : Prop := U.heap.size = sz ∧ va_P D gi_cls (gc_w ct ad h) U.heap ∧ va_K D gi_cls (gi_tyl ct) U ∧ va_D (fun _ => True) (gc_w ct ad h) ∧ gi_NW U
def gi_Q (D : va_G) (ct : Nat → ClassId) (ad : Nat → Nat) (n : Nat) (rv : Option Value) (hf : gi_H) (A : Nat → Prop) : Array Value → State → Outcome → State → Prop := fun _ st oc t =>
  (∃ ad' : Nat → Nat, (∀ k, k < n → ad' k = ad k) ∧ oc = .returned rv ∧ va_P D gi_cls (gc_w ct ad' hf) t.heap ∧ va_D A (gc_w ct ad' hf)) ∧ va_F A st t
theorem gi_blind {D : va_G} {ct : Nat → ClassId} {ad : Nat → Nat} {h : gi_H} {sz : Nat} {av : List Value} : FrameBlind (va_Pc av (gi_B D ct ad h sz)) := by
  intro a U g mk q
  obtain ⟨q0, q1, q2, q3, q4, q5⟩ := q
  exact ⟨q0, q1, q2, va_K.moved (u := U) (U := U.calling g mk a) (Vm.Alike.refl U.vm) q3, q4, gi_NW.same (s := U) (U := U.calling g mk a) rfl q5⟩
theorem gi_contW {p : Program} {l : Launch} {e : Env} {R : Room} {s : State} {m : MethodId} {args : Array Value} {below : List Frame} {meth : Method} {c : Code} {H : Heap} {locs : List Loc} {cells slots : Nat} {Q : State → Prop} {pc : Nat} {ls : Array Slot} {rest st0 : List Value} {a : Array Value} {A0 A1 : Nat → Prop} {H0 : Heap} {mc ms n : Nat} {free : Addr → Prop} {D : va_G} {ct : Nat → ClassId} {ad : Nat → Nat} {rv : Option Value} {hf : gi_H}
    (hr : va_Run p l e R s m args below meth c H locs cells slots mc ms (F0 m pc ls st0) rest (gi_Q D ct ad n rv hf A1 a) free) (hS : va_S A0 H0 H locs) (hA : ∀ q, q < H.size → A1 q → A0 q) (hfr : ∀ q, free q → A0 q)
    (kk : ∀ (ad' : Nat → Nat) (H1 : Heap) (locs1 : List Loc), (∀ k, k < n → ad' k = ad k) → va_P D gi_cls (gc_w ct ad' hf) H1 → va_D A1 (gc_w ct ad' hf) → va_S A0 H0 H1 locs1 → W p l e R s m args below meth c H1 locs1 (cells + mc) (slots + ms) Q (F0 m (pc + 3) ls (rv.toList ++ rest))) : W p l e R s m args below meth c H locs cells slots Q (F0 m pc ls st0) := by
  intro T hT X
  obtain ⟨v, st₀, t, T', L, h0, X', hL, e1, e2, ⟨⟨ad', ag, hv, hp, hb⟩, hz, hk⟩, st⟩ := hr T hT X
  cases hv
  rw [h0] at hz hk
  obtain ⟨t2, a1, b1⟩ := kk ad' T'.heap (locs ++ L) ag (by rw [e1]; exact hp) hb
    ⟨Nat.le_trans hS.1 (by rw [e1]; exact hz), fun q h1 h2 => by rw [e1, hk q (Nat.lt_of_lt_of_le h1 hS.1) (fun z => h2 (hA q (Nat.lt_of_lt_of_le h1 hS.1) z))]; exact hS.2.1 q h1 h2, fun q hq => by
      rcases List.mem_append.mp hq with h | h
      · exact hS.2.2 q h
      · exact hfr _ (hL q h)⟩ T' rfl X'
  exact ⟨t2, st t2 a1, b1⟩
/-- what is proved by induction on the number of instructions -/
def gi_G (pr : Nat → gi_M) (n : Nat) : Prop := ∀ (top : Bool) (M : gi_M) (pc : Nat) (lv : gi_Lv) (st : List Value) (h : gi_H) (rv : Option Value) (hf : gi_H), gi_okM top pr M → gi_wh h → gi_wl h.length lv → gi_ws h.length st → gi_h0 h → gi_ex pr gi_df n M pc lv st h = some (rv, hf) →
  ∀ (D : va_G) (ct : Nat → ClassId) (p : Program) (l : Launch) (e : Env) (R : Room) (s : State) (m : MethodId) (args : Array Value) (below : List Frame) (meth : Method) (c : Code) (Q : State → Prop) (A : Nat → Prop) (b0 L : Nat) (xs : Nat → Int32) (ad : Nat → Nat) (ls : Array Slot) (H : Heap) (locs : List Loc) (cells slots n0 s0 : Nat),
  gi_C D ct M p R s m args meth c → (∀ q, s.heap.size ≤ q → A q) → (top = true → va_X b0 L xs s s.heap ∧ b0 < s.heap.size ∧ ¬ A b0) → (top = true → ad 0 = b0 ∧ h[0]? = some (.inl (9, L, .inl xs))) →
  gi_L ls (gi_maxL M) ad lv → gi_Wd D ct A s n0 s0 ad h H locs cells slots → hf.length ≤ n0 + R.cells → gi_slots hf ≤ s0 + R.slots →
  (∀ (pcr : Nat) (insr : Instr) (lsr : Array Slot) (ad' : Nat → Nat) (H' : Heap) (locs' : List Loc) (cells' slots' : Nat), decode (gi_code M) pcr = .ok (insr, 1) → gi_rt (gi_ret M) insr rv → (∀ k, k < h.length → ad' k = ad k) → gi_Wd D ct A s n0 s0 ad' hf H' locs' cells' slots' → W p l e R s m args below meth c H' locs' cells' slots' Q (F0 m pcr lsr rv.toList)) →
  W p l e R s m args below meth c H locs cells slots Q (F0 m pc ls (st.map (gc_v ad)))
def gi_ws_of (M : gi_M) : List Jvm.Cond := .code (gi_name M) (gi_code M) (gi_maxL M) (gi_ret M) :: gi_AW
def gi_rm (M : gi_M) (mc ms : Nat) : Room := { frames := gi_rk M, cells := mc, slots := ms, locals := 41 * gi_rk M }
set_option maxHeartbeats 4000000 in
theorem gi_met {pr : Nat → gi_M} (hpr : ∀ j, gi_okM false pr (pr j)) {n : Nat} (G : gi_G pr n) {j : Nat} (hpl : plainFor (gi_name (pr j)) = true) (how : gi_own (pr j) = (gi_name (pr j)).cls) {as : List Value} {h : gi_H} {rv : Option Value} {hf : gi_H} (wh : gi_wh h) (ws : gi_ws h.length as) (h0 : gi_h0 h) (hlen : (gi_en0 as).length ≤ gi_maxL (pr j)) (ex : gi_ex pr gi_df n (pr j) 0 (gi_en (gi_maxL (pr j)) as) [] h = some (rv, hf)) (l : Launch) (D : va_G) (ct : Nat → ClassId) (ad : Nat → Nat) (sz : Nat) :
    Met l (gi_name (pr j)) (gi_ws_of (pr j)) (gi_rm (pr j) (hf.length - h.length) (gi_slots hf - gi_slots h)) (va_Pc (as.map (gc_v ad)) (gi_B D ct ad h sz)) (gi_Q D ct ad h.length rv hf (va_A (gc_w ct ad h) sz)) (hf.length - h.length) (gi_slots hf - gi_slots h) (va_A (gc_w ct ad h) sz) := by
  obtain ⟨p1, p2, p3, p4, p5, p6⟩ := gi_ex_P hpr n false (pr j) 0 _ [] h rv hf (hpr j) wh (gi_wl.entry ws) gi_ws_nil h0 ex
  refine va_MetF (cc := gi_code (pr j)) (maxL := gi_maxL (pr j)) (ret := gi_ret (pr j)) hpl rfl ?_
  intro p e s m args below meth c s₁ B hml hv
  obtain ⟨rfl, hsz, hP, hK, hD0, hN⟩ := hv
  have hts0 := atoms_spec (ws := gi_ws_of (pr j)) B.pre
  have hts : ∀ w ∈ gi_AW, w.before _ s = true := fun w hw => hts0 w (List.mem_cons_of_mem _ hw)
  have hown : s.vm.findClass (gi_own (pr j)) = some m.cls := by rw [how]; exact findClass_of_methodNamed B.named
  have hnm : meth.name = (gi_name (pr j)).name := (name_of_methodNamed B.named B.method).1
  have hlocks := B.notSynchronized
  subst hsz
  rw [lg_entry_eq]
  refine G false (pr j) 0 _ [] h rv hf (hpr j) wh (gi_wl.entry ws) gi_ws_nil h0 ex D ct p l e _ s m _ below meth c _ (va_A (gc_w ct ad h) s.heap.size) 0 0 (fun _ => 0) ad _ s.heap [] 0 0 h.length (gi_slots h) ⟨B.exec, B.bytes, B.returns, hml, hown, hts, hN, hK, hlocks, hnm, Nat.le_refl _, Nat.le_refl _⟩ (fun q hq => Or.inr hq) (fun z => by cases z) (fun z => by cases z) (gi_L.entry ad hlen) ⟨hP, hD0.self, va_S.rf, by omega, by omega⟩ (by show _ ≤ h.length + (hf.length - h.length); omega) (by show _ ≤ gi_slots h + (gi_slots hf - gi_slots h); omega) ?_
  intro pcr insr lsr ad' H' locs' cells' slots' hdr hrt ag hw
  obtain ⟨hP', hD', hS', hc', hs'⟩ := hw
  have ec : hf.length - h.length = cells' := by omega
  have es : gi_slots hf - gi_slots h = slots' := by omega
  rw [ec, es]
  have hq : ∀ t : State, t.heap = H' → s.WarmedH t.vm → gi_Q D ct ad h.length rv hf (va_A (gc_w ct ad h) s.heap.size) (as.map (gc_v ad)).toArray s (.returned rv) t := by
    intro t ht _
    exact ⟨⟨ad', ag, rfl, by rw [ht]; exact hP', hD'⟩, hS'.F ht⟩
  rcases hrt with ⟨rfl, x, rfl, hro⟩ | ⟨rfl, hret, x, rfl⟩ | ⟨rfl, hret, rfl⟩
  · unfold gi_rok at hro
    split at hro
    · rename_i hret
      exact W.iret B.exec B.bytes (B.returns.trans hret) hq hS'.2.2 hdr
    · rename_i hret
      exact W.zret (ty := .boolean) B.exec B.bytes (B.returns.trans hret) (by rcases decide_eq_true_eq.mp hro with rfl | rfl <;> rfl) hq hS'.2.2 hdr
    · cases hro
  · exact W.lret B.exec B.bytes (B.returns.trans hret) hq hS'.2.2 hdr
  · exact W.vret B.exec B.bytes (B.returns.trans hret) hq hS'.2.2 hdr
theorem gi_cat_sum (ad : Nat → Nat) : ∀ st : List Value, ((st.map (gc_v ad)).map fun v => v.category).sum = gi_cat st := by
  intro st
  induction st with
  | nil => rfl
  | cons v t ih => simp only [List.map_cons, List.sum_cons, gi_cat, gc_cat, ih]
theorem gi_goodws {M : gi_M} (h : gi_in (.code (gi_name M) (gi_code M) (gi_maxL M) (gi_ret M)) = true) : GoodIn gi_AW (gi_ws_of M) := by
  intro w hw
  rcases List.mem_cons.mp hw with rfl | hw
  · exact ⟨gi_in_mem h, gi_AW_good (gi_in_mem h)⟩
  · exact ⟨hw, gi_AW_good hw⟩
set_option maxHeartbeats 4000000 in
theorem gi_sound {pr : Nat → gi_M} (hpr : ∀ j, gi_okM false pr (pr j)) : ∀ n, gi_G pr n := by
  intro n
  induction n with
  | zero => intro top M pc lv st h rv hf _ _ _ _ _ e; cases e
  | succ n ih =>
    intro top M pc lv st h rv hf hM wh wl ws h0 ex D ct p l e R s m args below meth c Q A b0 L xs ad ls H locs cells slots n0 s0 C hA hX hsc hl hw hRc hRs fin
    rw [gi_ex] at ex
    cases h1 : gi_look (gi_tab M) pc with
    | none => rw [h1] at ex; cases ex
    | some x =>
      rw [h1] at ex
      simp only at ex
      obtain ⟨hd, hok⟩ := gi_ok_at hM h1
      cases h2 : gi_go gi_df (gi_ret M) x pc lv st h with
      | none => rw [h2] at ex; cases ex
      | some o =>
        rw [h2] at ex
        match o, h2, ex with
        | .inl (pc', lv', st', h'), h2, ex =>
          obtain ⟨p1, p2, p3, p4, p5, p6, p7, p8⟩ := gi_go_P hok wh wl ws h0 h2
          obtain ⟨q1, q2, q3, q4, q5, q6⟩ := gi_ex_P hpr n top M pc' lv' st' h' rv hf hM p1 p2 p3 p4 ex
          refine gi_stepW C hA hX hsc hl hw wh wl ws h0 hd hok h2 (by omega) (by omega) (fun ls' ad' H' locs' cells' slots' ag hl' hw' => ?_)
          have hpos : 0 < h.length := by
            obtain ⟨⟨y, hy⟩, -⟩ := h0
            exact (List.getElem?_eq_some_iff.mp hy).1
          refine ih top M pc' lv' st' h' rv hf hM p1 p2 p3 p4 ex D ct p l e R s m args below meth c Q A b0 L xs ad' ls' H' locs' cells' slots' n0 s0 C hA hX (fun z => ⟨by rw [ag 0 hpos]; exact (hsc z).1, by rw [p8]; exact (hsc z).2⟩) hl' hw' hRc hRs (fun pcr insr lsr ad2 H2 locs2 cells2 slots2 u1 u2 u3 u4 => ?_)
          exact fin pcr insr lsr ad2 H2 locs2 cells2 slots2 u1 u2 (fun k hk => (u3 k (by omega)).trans (ag k hk)) u4
        | .inr (.inl rv'), h2, ex =>
          cases ex
          obtain ⟨r1, r2, r3⟩ := gi_go_ret h2
          rw [r2, r1.nr.map]
          rw [r3] at hd
          exact fin pc x.1 ls ad H locs cells slots hd r1 (fun _ _ => rfl) hw
        | .inr (.inr (j, as, rest)), h2, ex =>
          simp only at ex
          obtain ⟨c1, c2, c3, c4, c5⟩ := gi_go_call h2
          have ws' := ws
          rw [c3] at ws'
          obtain ⟨s1, s2⟩ := gi_ws_app.mp ws'
          cases h4 : Nat.ble (gi_en0 as).length (gi_maxL (pr j)) with
          | false => rw [h4] at ex; cases ex
          | true =>
            rw [h4] at ex
            simp only at ex
            cases h3 : gi_ex pr gi_df n (pr j) 0 (gi_en (gi_maxL (pr j)) as) [] h with
            | none => rw [h3] at ex; cases ex
            | some z =>
              rw [h3] at ex
              obtain ⟨w1, h1'⟩ := z
              simp only at ex
              have hl4 : (gi_en0 as).length ≤ gi_maxL (pr j) := Nat.le_of_ble_eq_true h4
              obtain ⟨q1, q2, q3, q4, q5, q6⟩ := gi_ex_P hpr n false (pr j) 0 _ [] h w1 h1' (hpr j) wh (gi_wl.entry (gi_ws_rev s1)) gi_ws_nil h0 h3
              obtain ⟨r1, r2, r3, r4, r5, r6⟩ := gi_ex_P hpr n top M (pc + 3) lv _ h1' rv hf hM q1 (wl.mono q4) (gi_ws_app.mpr ⟨q2.ws _, s2.mono q4⟩) q3 ex
              obtain ⟨hx, hb, hr, hml, hown, hts, hNW, hK, hlocks, hnm, hfr, hlo⟩ := id C
              obtain ⟨hP, hD, hS, hcc, hss⟩ := hw
              have hpos : 0 < h.length := by
                obtain ⟨⟨y, hy⟩, -⟩ := h0
                exact (List.getElem?_eq_some_iff.mp hy).1
              have hFc : ∀ q, va_A (gc_w ct ad h) H.size q → A q := by
                rintro q (⟨k, e1, hk⟩ | hk)
                · exact hD.2 k _ hk
                · exact hA q (Nat.le_trans hS.1 hk)
              -- behind the call
              have after : ∀ (ad' : Nat → Nat) (H1 : Heap) (locs1 : List Loc), (∀ k, k < h.length → ad' k = ad k) → va_P D gi_cls (gc_w ct ad' h1') H1 → va_D (va_A (gc_w ct ad h) H.size) (gc_w ct ad' h1') → va_S A s.heap H1 locs1 → W p l e R s m args below meth c H1 locs1 (cells + (h1'.length - h.length)) (slots + (gi_slots h1' - gi_slots h)) Q (F0 m (pc + 3) ls (w1.toList ++ rest.map (gc_v ad))) := by
                intro ad' H1 locs1 ag hP1 hD1 hS1
                have e1 : w1.toList ++ rest.map (gc_v ad) = (w1.toList ++ rest).map (gc_v ad') := by
                  rw [List.map_append, q2.map, gc_s_ag ag s2]
                rw [e1]
                refine ih top M (pc + 3) lv (w1.toList ++ rest) h1' rv hf hM q1 (wl.mono q4) (gi_ws_app.mpr ⟨q2.ws _, s2.mono q4⟩) q3 ex D ct p l e R s m args below meth c Q A b0 L xs ad' ls H1 locs1 _ _ n0 s0 C hA hX (fun z => ⟨by rw [ag 0 hpos]; exact (hsc z).1, by rw [q6]; exact (hsc z).2⟩) (hl.ag ag wl) ⟨hP1, hD1.weaken (fun k q _ hq => hFc _ hq), hS1, by omega, by omega⟩ hRc hRs (fun pcr insr lsr ad2 H2 locs2 cells2 slots2 u1 u2 u3 u4 => ?_)
                exact fin pcr insr lsr ad2 H2 locs2 cells2 slots2 u1 u2 (fun k hk => (u3 k (by omega)).trans (ag k hk)) u4
              -- the callee's start
              have pre : ∀ U : State, U.heap = H → s.WarmedH U.vm → va_Pc (as.map (gc_v ad)) (gi_B D ct ad h H.size) (as.map (gc_v ad)).toArray U := by
                intro U hU hW
                exact ⟨rfl, by rw [hU], by rw [hU]; exact hP, va_K.moved hW.alike hK, hD.weaken (fun _ _ _ _ => trivial), hNW.warm hW⟩
              have hroom : 2 * (F0 m pc ls (st.map (gc_v ad))).monitorRoom + ((rest.map (gc_v ad)).map fun v => v.category).sum ≤ 8 := lv_room (by rw [gi_cat_sum]; exact c4)
              have hcell : cells + (h1'.length - h.length) ≤ R.cells := by omega
              have hslot : slots + (gi_slots h1' - gi_slots h) ≤ R.slots := by omega
              obtain ⟨ins, a, b, v⟩ := x
              simp only at c1 c2 hd hok
              subst c1
              have okC : ∀ {k : Nat}, gi_okC M (pr j) k = true → plainFor (gi_name (pr j)) = true ∧ gi_own (pr j) = (gi_name (pr j)).cls ∧ gi_in (.code (gi_name (pr j)) (gi_code (pr j)) (gi_maxL (pr j)) (gi_ret (pr j))) = true ∧ gi_in (.initialized (gi_name (pr j)).cls) = true ∧ ((gi_name (pr j)).cls ≠ "java/lang/invoke/MethodHandle" ∧ (gi_name (pr j)).cls ≠ "java/lang/invoke/VarHandle" ∧ (parseMethodDescriptor (gi_name (pr j)).desc).map (fun d => d.parameters.length) = some k) ∧ ((gi_rm (pr j) (h1'.length - h.length) (gi_slots h1' - gi_slots h)).frames + 1 ≤ R.frames ∧ 8 + (gi_maxL (pr j) + 11) + (gi_rm (pr j) (h1'.length - h.length) (gi_slots h1' - gi_slots h)).locals ≤ R.locals) := by
                intro k hk
                simp only [gi_okC, Bool.and_eq_true, decide_eq_true_eq] at hk
                obtain ⟨⟨⟨⟨⟨⟨⟨⟨k1, k2⟩, k3⟩, k4⟩, k5⟩, k6⟩, k7⟩, k8⟩, k9⟩ := hk
                refine ⟨k8, k9, k1, k2, ⟨k3, k4, k5⟩, ?_, ?_⟩
                · show gi_rk (pr j) + 1 ≤ R.frames
                  omega
                · show 8 + (gi_maxL (pr j) + 11) + 41 * gi_rk (pr j) ≤ R.locals
                  omega
              have S : CallFix p m c (gi_code M) (gi_maxL M) s args gi_AW (gi_own M) := ⟨hx, hb, hml, hown, hts⟩
              rcases c5 with ⟨i, d1, d2⟩ | ⟨i, ci, o, t, d1, d2, d3, d4⟩ | ⟨i, o, t, d1, d2, d3⟩
              · simp only at d1 d2
                subst d1
                simp only [gi_okI, d2, Bool.and_eq_true] at hok
                obtain ⟨⟨o1, o2⟩, o3⟩ := hok
                obtain ⟨k8, k9, k1, k2, k3, k4⟩ := okC o3
                have hM1 := gi_met hpr ih (j := j) k8 k9 wh (gi_ws_rev s1) h0 hl4 h3 l D ct ad H.size
                have hstk : (F0 m pc ls (st.map (gc_v ad))).stack = (as.map (gc_v ad)).reverse ++ rest.map (gc_v ad) := by
                  show st.map (gc_v ad) = _
                  rw [c3, List.map_append, List.map_reverse]
                cases v with
                | ref k =>
                  have hn := hNW.1 _ (gi_inN_mem o1)
                  exact gi_contW (va_runSN (host := "AdmiralGuinea") S hM1 ⟨va_cnB b hts (gi_goodws k1) rfl rfl rfl hn (hts _ (gi_in_mem k2)) k3 k4, hts _ (gi_in_mem o2), trivial⟩ ⟨gi_blind, pre⟩ rfl (by rw [List.length_map]; exact c2) hl.2.1 hstk hroom hd ⟨hcell, hslot⟩) hS (fun q _ hq => hFc q hq) hFc after
                | _ =>
                  exact gi_contW (va_runS S hM1 ⟨callB_of b hts (gi_goodws k1) rfl rfl rfl (hts _ (gi_in_mem k2)) (hts _ (gi_in_mem o1)) k3 k4, hts _ (gi_in_mem o2)⟩ ⟨gi_blind, pre⟩ rfl (by rw [List.length_map]; exact c2) hl.2.1 hstk hroom hd ⟨hcell, hslot⟩) hS (fun q _ hq => hFc q hq) hFc after
              · simp only at d1 d2
                subst d1; subst d2; subst d3
                cases b with
                | zero => simp at c2
                | succ b =>
                  simp only [gi_okI, Bool.and_eq_true] at hok
                  obtain ⟨⟨⟨⟨o0, o1⟩, o2⟩, o3⟩, o4⟩ := hok
                  cases hq : gi_cls[ci]? with
                  | none => rw [hq] at o0; cases o0
                  | some q =>
                    rw [hq] at o0
                    simp only [decide_eq_true_eq] at o0
                    obtain ⟨k8, k9, k1, k2, k3, k4⟩ := okC o4
                    have hM1 := gi_met hpr ih (j := j) k8 k9 wh (gi_ws_rev s1) h0 hl4 h3 l D ct ad H.size
                    have hstk : (F0 m pc ls (st.map (gc_v ad))).stack = (t.map (gc_v ad)).reverse ++ .ref (ad o) :: rest.map (gc_v ad) := by
                      show st.map (gc_v ad) = _
                      rw [c3, List.map_append, List.map_reverse, List.map_cons, List.reverse_cons]
                      simp [gc_v]
                    obtain ⟨fs, g1⟩ := gi_is_inv d4
                    obtain ⟨k, rfl⟩ := gi_h0_ne h0 g1 (fun _ q => by cases q)
                    have hrecv := va_recv hK hP hq (gc_w_get g1)
                    rw [o0] at hrecv
                    exact gi_contW (va_runV S hM1 ⟨callB_of b hts (gi_goodws k1) rfl rfl rfl (hts _ (gi_in_mem k2)) (hts _ (gi_in_mem o1)) k3 k4, hts _ (gi_in_mem o2), hts _ (gi_in_mem o3)⟩ ⟨gi_blind, hrecv, pre⟩ rfl (by rw [List.length_map]; simp at c2; exact c2) hl.2.1 hstk hroom hd ⟨hcell, hslot⟩) hS (fun q _ hq => hFc q hq) hFc after
              · simp only at d1 d2
                subst d1; subst d3
                cases b with
                | zero => simp at c2
                | succ b =>
                  simp only [gi_okI, d2, Bool.and_eq_true, decide_eq_true_eq] at hok
                  obtain ⟨⟨⟨⟨o1, o2⟩, o3⟩, o4⟩, o5⟩ := hok
                  obtain ⟨k8, k9, k1, k2, k3, k4⟩ := okC o5
                  have hM1 := gi_met hpr ih (j := j) k8 k9 wh (gi_ws_rev s1) h0 hl4 h3 l D ct ad H.size
                  have hstk : (F0 m pc ls (st.map (gc_v ad))).stack = (t.map (gc_v ad)).reverse ++ .ref (ad o) :: rest.map (gc_v ad) := by
                    show st.map (gc_v ad) = _
                    rw [c3, List.map_append, List.map_reverse, List.map_cons, List.reverse_cons]
                    simp [gc_v]
                  have hcb := callB_of (own := gi_own M) (index := i) (ws' := gi_AW) b hts (gi_goodws k1) rfl (rm := gi_rm (pr j) (h1'.length - h.length) (gi_slots h1' - gi_slots h)) rfl rfl (hts _ (gi_in_mem k2)) (hts _ (gi_in_mem o1)) k3 k4
                  rw [o4] at hcb
                  exact gi_contW (va_runI S hM1 ⟨hcb, o3, hts _ (gi_in_mem o2)⟩ ⟨gi_blind, pre⟩ rfl (by rw [List.length_map]; simp at c2; exact c2) hl.2.1 hstk hroom hd ⟨hcell, hslot⟩) hS (fun q _ hq => hFc q hq) hFc after
end
