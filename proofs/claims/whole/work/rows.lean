section
-- ===== PART A: goes FIRST, ahead of the names: the tables' words, and 'selects' of the private methods out of them =====
/-- a private method of a class that the tables say can be made, by its rows of tables_1 -/
def lw_okq (q : MethodName × Nat) : Prop := (q.1.cls ≠ "java/lang/invoke/MethodHandle" ∧ q.1.cls ≠ "java/lang/invoke/VarHandle") ∧ Cond.instantiable q.1.cls q.2 ∈ tables_1 ∧ Cond.privateMethod q.1 ∈ tables_1 ∧ Cond.instanceMethod q.1 ∈ tables_1
theorem lw_p0 : lw_okq (⟨"CellDays$Duties", "numberedIn", "(II)LCellDays$Duty;"⟩, 2) := ⟨⟨by decide +kernel, by decide +kernel⟩, List.mem_of_getElem? (i := 50) (by decide +kernel), List.mem_of_getElem? (i := 284) (by decide +kernel), List.mem_of_getElem? (i := 285) (by decide +kernel)⟩
theorem lw_p1 : lw_okq (⟨"CellDays", "sureBy", "(I)I"⟩, 5) := ⟨⟨by decide +kernel, by decide +kernel⟩, List.mem_of_getElem? (i := 11) (by decide +kernel), List.mem_of_getElem? (i := 319) (by decide +kernel), List.mem_of_getElem? (i := 320) (by decide +kernel)⟩
theorem lw_p2 : lw_okq (⟨"CellDays", "worthiestSet", "(I)I"⟩, 5) := ⟨⟨by decide +kernel, by decide +kernel⟩, List.mem_of_getElem? (i := 11) (by decide +kernel), List.mem_of_getElem? (i := 327) (by decide +kernel), List.mem_of_getElem? (i := 328) (by decide +kernel)⟩
theorem lw_p3 : lw_okq (⟨"CellDays$Signs", "arrange", "()V"⟩, 4) := ⟨⟨by decide +kernel, by decide +kernel⟩, List.mem_of_getElem? (i := 66) (by decide +kernel), List.mem_of_getElem? (i := 348) (by decide +kernel), List.mem_of_getElem? (i := 349) (by decide +kernel)⟩
theorem lw_p4 : lw_okq (⟨"CellDays$Cases", "leakOf", "(I)I"⟩, 8) := ⟨⟨by decide +kernel, by decide +kernel⟩, List.mem_of_getElem? (i := 87) (by decide +kernel), List.mem_of_getElem? (i := 377) (by decide +kernel), List.mem_of_getElem? (i := 378) (by decide +kernel)⟩
theorem lw_p5 : lw_okq (⟨"CellDays$Cases", "loadOfCase", "(I)I"⟩, 8) := ⟨⟨by decide +kernel, by decide +kernel⟩, List.mem_of_getElem? (i := 87) (by decide +kernel), List.mem_of_getElem? (i := 381) (by decide +kernel), List.mem_of_getElem? (i := 382) (by decide +kernel)⟩
theorem lw_p6 : lw_okq (⟨"CellDays$Cases", "startAgreeing", "()V"⟩, 8) := ⟨⟨by decide +kernel, by decide +kernel⟩, List.mem_of_getElem? (i := 87) (by decide +kernel), List.mem_of_getElem? (i := 434) (by decide +kernel), List.mem_of_getElem? (i := 435) (by decide +kernel)⟩
theorem lw_p7 : lw_okq (⟨"CellDays$Cases", "greatestAtOneLevel", "()I"⟩, 8) := ⟨⟨by decide +kernel, by decide +kernel⟩, List.mem_of_getElem? (i := 87) (by decide +kernel), List.mem_of_getElem? (i := 438) (by decide +kernel), List.mem_of_getElem? (i := 439) (by decide +kernel)⟩
theorem lw_p8 : lw_okq (⟨"CellDays$Cases", "passDay", "(I)V"⟩, 8) := ⟨⟨by decide +kernel, by decide +kernel⟩, List.mem_of_getElem? (i := 87) (by decide +kernel), List.mem_of_getElem? (i := 443) (by decide +kernel), List.mem_of_getElem? (i := 444) (by decide +kernel)⟩
theorem lw_p9 : lw_okq (⟨"CellDaysModel", "shareOf", "(I)I"⟩, 19) := ⟨⟨by decide +kernel, by decide +kernel⟩, List.mem_of_getElem? (i := 463) (by decide +kernel), List.mem_of_getElem? (i := 550) (by decide +kernel), List.mem_of_getElem? (i := 551) (by decide +kernel)⟩
theorem lw_p10 : lw_okq (⟨"CellDaysModel", "isDuty", "(I)Z"⟩, 19) := ⟨⟨by decide +kernel, by decide +kernel⟩, List.mem_of_getElem? (i := 463) (by decide +kernel), List.mem_of_getElem? (i := 562) (by decide +kernel), List.mem_of_getElem? (i := 563) (by decide +kernel)⟩
theorem lw_p11 : lw_okq (⟨"CellDaysModel", "drainOf", "(II)I"⟩, 19) := ⟨⟨by decide +kernel, by decide +kernel⟩, List.mem_of_getElem? (i := 463) (by decide +kernel), List.mem_of_getElem? (i := 576) (by decide +kernel), List.mem_of_getElem? (i := 577) (by decide +kernel)⟩
theorem lw_p12 : lw_okq (⟨"CellDaysModel", "bits", "()I"⟩, 19) := ⟨⟨by decide +kernel, by decide +kernel⟩, List.mem_of_getElem? (i := 463) (by decide +kernel), List.mem_of_getElem? (i := 587) (by decide +kernel), List.mem_of_getElem? (i := 588) (by decide +kernel)⟩
theorem lw_p13 : lw_okq (⟨"CellDaysModel", "lifeOf", "(III)I"⟩, 19) := ⟨⟨by decide +kernel, by decide +kernel⟩, List.mem_of_getElem? (i := 463) (by decide +kernel), List.mem_of_getElem? (i := 591) (by decide +kernel), List.mem_of_getElem? (i := 592) (by decide +kernel)⟩
theorem lw_p14 : lw_okq (⟨"CellDaysModel", "drains", "(II)I"⟩, 19) := ⟨⟨by decide +kernel, by decide +kernel⟩, List.mem_of_getElem? (i := 463) (by decide +kernel), List.mem_of_getElem? (i := 595) (by decide +kernel), List.mem_of_getElem? (i := 596) (by decide +kernel)⟩
theorem lw_p15 : lw_okq (⟨"CellDaysModel", "behind", "(IIII)I"⟩, 19) := ⟨⟨by decide +kernel, by decide +kernel⟩, List.mem_of_getElem? (i := 463) (by decide +kernel), List.mem_of_getElem? (i := 599) (by decide +kernel), List.mem_of_getElem? (i := 600) (by decide +kernel)⟩
def lw_privs_1 : List (MethodName × Nat) := [(⟨"CellDays$Duties", "numberedIn", "(II)LCellDays$Duty;"⟩, 2), (⟨"CellDays", "sureBy", "(I)I"⟩, 5), (⟨"CellDays", "worthiestSet", "(I)I"⟩, 5), (⟨"CellDays$Signs", "arrange", "()V"⟩, 4), (⟨"CellDays$Cases", "leakOf", "(I)I"⟩, 8), (⟨"CellDays$Cases", "loadOfCase", "(I)I"⟩, 8), (⟨"CellDays$Cases", "startAgreeing", "()V"⟩, 8), (⟨"CellDays$Cases", "greatestAtOneLevel", "()I"⟩, 8), (⟨"CellDays$Cases", "passDay", "(I)V"⟩, 8), (⟨"CellDaysModel", "shareOf", "(I)I"⟩, 19), (⟨"CellDaysModel", "isDuty", "(I)Z"⟩, 19), (⟨"CellDaysModel", "drainOf", "(II)I"⟩, 19), (⟨"CellDaysModel", "bits", "()I"⟩, 19), (⟨"CellDaysModel", "lifeOf", "(III)I"⟩, 19), (⟨"CellDaysModel", "drains", "(II)I"⟩, 19), (⟨"CellDaysModel", "behind", "(IIII)I"⟩, 19)]
theorem lw_r1 : ∀ q ∈ lw_privs_1, lw_okq q := List.forall_mem_cons.mpr ⟨lw_p0, List.forall_mem_cons.mpr ⟨lw_p1, List.forall_mem_cons.mpr ⟨lw_p2, List.forall_mem_cons.mpr ⟨lw_p3, List.forall_mem_cons.mpr ⟨lw_p4, List.forall_mem_cons.mpr ⟨lw_p5, List.forall_mem_cons.mpr ⟨lw_p6, List.forall_mem_cons.mpr ⟨lw_p7, List.forall_mem_cons.mpr ⟨lw_p8, List.forall_mem_cons.mpr ⟨lw_p9, List.forall_mem_cons.mpr ⟨lw_p10, List.forall_mem_cons.mpr ⟨lw_p11, List.forall_mem_cons.mpr ⟨lw_p12, List.forall_mem_cons.mpr ⟨lw_p13, List.forall_mem_cons.mpr ⟨lw_p14, List.forall_mem_cons.mpr ⟨lw_p15, fun _ h => absurd h List.not_mem_nil⟩⟩⟩⟩⟩⟩⟩⟩⟩⟩⟩⟩⟩⟩⟩⟩
theorem lw_p16 : lw_okq (⟨"CellDaysModel", "worthOf", "(I)I"⟩, 19) := ⟨⟨by decide +kernel, by decide +kernel⟩, List.mem_of_getElem? (i := 463) (by decide +kernel), List.mem_of_getElem? (i := 618) (by decide +kernel), List.mem_of_getElem? (i := 619) (by decide +kernel)⟩
theorem lw_p17 : lw_okq (⟨"CellDaysModel", "empties", "(I)V"⟩, 19) := ⟨⟨by decide +kernel, by decide +kernel⟩, List.mem_of_getElem? (i := 463) (by decide +kernel), List.mem_of_getElem? (i := 637) (by decide +kernel), List.mem_of_getElem? (i := 638) (by decide +kernel)⟩
theorem lw_p18 : lw_okq (⟨"CellDaysModel", "isAgreeing", "(I)Z"⟩, 19) := ⟨⟨by decide +kernel, by decide +kernel⟩, List.mem_of_getElem? (i := 463) (by decide +kernel), List.mem_of_getElem? (i := 645) (by decide +kernel), List.mem_of_getElem? (i := 646) (by decide +kernel)⟩
def lw_privs_2 : List (MethodName × Nat) := [(⟨"CellDaysModel", "worthOf", "(I)I"⟩, 19), (⟨"CellDaysModel", "empties", "(I)V"⟩, 19), (⟨"CellDaysModel", "isAgreeing", "(I)Z"⟩, 19)]
theorem lw_r2 : ∀ q ∈ lw_privs_2, lw_okq q := List.forall_mem_cons.mpr ⟨lw_p16, List.forall_mem_cons.mpr ⟨lw_p17, List.forall_mem_cons.mpr ⟨lw_p18, fun _ h => absurd h List.not_mem_nil⟩⟩⟩
def lw_privs : List (MethodName × Nat) := lw_privs_1 ++ (lw_privs_2)
def lw_tbl : List Cond := k2_sels lw_privs ++ tables_1
theorem lw_privs_ok : ∀ q ∈ lw_privs, lw_okq q := by
  show ∀ q ∈ lw_privs_1 ++ (lw_privs_2), lw_okq q
  exact List.forall_mem_append.mpr ⟨lw_r1, lw_r2⟩
-- ===== end of PART A; then your names; then what follows =====
end
section
/-! ===== BEGIN words of one list among another's, by their places ===== -/
theorem goodIn_r {big : List Cond} (ws : List Cond) (ps : List Nat) (hp : ws = ps.filterMap (fun i => big[i]?)) (h : ws.all goodWord = true) : GoodIn big ws := by
  intro w hw
  have h1 := List.all_eq_true.mp h w hw
  rw [hp] at hw
  obtain ⟨i, -, hi⟩ := List.mem_filterMap.mp hw
  have hm : w ∈ big := by first | exact List.mem_of_getElem? hi | exact List.getElem?_mem hi
  exact ⟨hm, good_of_word h1⟩
theorem goodIn_app {big a b : List Cond} (ha : GoodIn big a) (hb : GoodIn big b) : GoodIn big (a ++ b) := fun w h => (List.mem_append.mp h).elim (ha w) (hb w)
theorem goodIn_ca {big a b : List Cond} {c : Cond} (ha : GoodIn big (c :: a)) (hb : GoodIn big b) : GoodIn big (c :: (a ++ b)) := fun w h => (List.mem_cons.mp h).elim (fun e => ha w (List.mem_cons.mpr (Or.inl e))) (fun h => (List.mem_append.mp h).elim (fun h => ha w (List.mem_cons.mpr (Or.inr h))) (hb w))
theorem goodIn_sub {big ws : List Cond} (hm : ∀ w ∈ ws, w ∈ big) (h : ws.all goodWord = true) : GoodIn big ws := fun w hw => ⟨hm w hw, good_of_word (List.all_eq_true.mp h w hw)⟩
/-! ===== END ===== -/

/-! ===== BEGIN printed: names, fields, word lists, decode rows ===== -/
def RX0 : String := "CellDays$Cases"
def TX0 : u_T := fun k => match k with
  | 0 => ("CellDays$Cases", "cell", "LCellDays$Cell;", true)
  | 1 => ("CellDays$Cases", "duties", "LCellDays$Duties;", true)
  | 2 => ("CellDays$Cases", "signs", "LCellDays$Signs;", true)
  | 3 => ("CellDays$Cases", "agreeing", "[I", true)
  | 4 => ("CellDays$Cases", "loads", "[I", true)
  | 5 => ("CellDays$Cases", "charges", "[I", true)
  | 6 => ("CellDays$Cases", "atLevel", "[I", true)
  | _ => ("CellDays$Cases", "agreed", "I", false)
def tyX0 : Nat → FieldType := fun k => match k with
  | 0 => .object "CellDays$Cell"
  | 1 => .object "CellDays$Duties"
  | 2 => .object "CellDays$Signs"
  | 3 => .array .int
  | 4 => .array .int
  | 5 => .array .int
  | 6 => .array .int
  | _ => .int
abbrev wsX00 : List Cond := u_ws RX0 TX0 8
theorem nmX0 : ∀ a, a < 8 → ∀ b, b < 8 → a ≠ b → (TX0 a).2.1 ≠ (TX0 b).2.1 := by decide +kernel
theorem tyX0_ok : ∀ k, k < 8 → parseFieldDescriptor (TX0 k).2.2.1 = some (tyX0 k) := by decide +kernel
abbrev cX0_init : ByteArray := prog_2_method_1_code
def yX0_init : MethodName := ⟨RX0, "<init>", "(LCellDays$Cell;LCellDays$Duties;LCellDays$Signs;)V"⟩
abbrev cX0_isNumber : ByteArray := prog_2_method_2_code
def yX0_isNumber : MethodName := ⟨RX0, "isNumber", "(I)Z"⟩
abbrev cX0_oddOf : ByteArray := prog_2_method_3_code
def yX0_oddOf : MethodName := ⟨RX0, "oddOf", "(I)I"⟩
abbrev cX0_leakOf : ByteArray := prog_2_method_4_code
def yX0_leakOf : MethodName := ⟨RX0, "leakOf", "(I)I"⟩
abbrev cX0_loadOfCase : ByteArray := prog_2_method_5_code
def yX0_loadOfCase : MethodName := ⟨RX0, "loadOfCase", "(I)I"⟩
abbrev cX0_levelAhead : ByteArray := prog_2_method_6_code
def yX0_levelAhead : MethodName := ⟨RX0, "levelAhead", "(II)I"⟩
abbrev cX0_fitsSigns : ByteArray := prog_2_method_7_code
def yX0_fitsSigns : MethodName := ⟨RX0, "fitsSigns", "(I)Z"⟩
abbrev cX0_gatherAgreeing : ByteArray := prog_2_method_8_code
def yX0_gatherAgreeing : MethodName := ⟨RX0, "gatherAgreeing", "()V"⟩
abbrev cX0_leastAgreeing : ByteArray := prog_2_method_9_code
def yX0_leastAgreeing : MethodName := ⟨RX0, "leastAgreeing", "()I"⟩
abbrev cX0_isOdd : ByteArray := prog_2_method_10_code
def yX0_isOdd : MethodName := ⟨RX0, "isOdd", "()Z"⟩
abbrev cX0_dayThatTellsMost : ByteArray := prog_2_method_11_code
def yX0_dayThatTellsMost : MethodName := ⟨RX0, "dayThatTellsMost", "()I"⟩
abbrev cX0_startAgreeing : ByteArray := prog_2_method_12_code
def yX0_startAgreeing : MethodName := ⟨RX0, "startAgreeing", "()V"⟩
abbrev cX0_greatestAtOneLevel : ByteArray := prog_2_method_13_code
def yX0_greatestAtOneLevel : MethodName := ⟨RX0, "greatestAtOneLevel", "()I"⟩
abbrev cX0_passDay : ByteArray := prog_2_method_14_code
def yX0_passDay : MethodName := ⟨RX0, "passDay", "(I)V"⟩
def RX1 : String := "CellDays$Cell"
def TX1 : u_T := fun k => match k with
  | 0 => ("CellDays$Cell", "sharesByWarmth", "[I", true)
  | 1 => ("CellDays$Cell", "warmths", "[I", true)
  | 2 => ("CellDays$Cell", "places", "I", false)
  | 3 => ("CellDays$Cell", "room", "I", false)
  | 4 => ("CellDays$Cell", "leak", "I", false)
  | _ => ("CellDays$Cell", "bar", "I", false)
def tyX1 : Nat → FieldType := fun k => match k with
  | 0 => .array .int
  | 1 => .array .int
  | 2 => .int
  | 3 => .int
  | 4 => .int
  | _ => .int
abbrev wsX10 : List Cond := u_ws RX1 TX1 6
theorem nmX1 : ∀ a, a < 6 → ∀ b, b < 6 → a ≠ b → (TX1 a).2.1 ≠ (TX1 b).2.1 := by decide +kernel
theorem tyX1_ok : ∀ k, k < 6 → parseFieldDescriptor (TX1 k).2.2.1 = some (tyX1 k) := by decide +kernel
abbrev cX1_init : ByteArray := prog_3_method_1_code
def yX1_init : MethodName := ⟨RX1, "<init>", "()V"⟩
abbrev cX1_changeRoom : ByteArray := prog_3_method_2_code
def yX1_changeRoom : MethodName := ⟨RX1, "changeRoom", "(I)I"⟩
abbrev cX1_changeLeak : ByteArray := prog_3_method_3_code
def yX1_changeLeak : MethodName := ⟨RX1, "changeLeak", "(I)I"⟩
abbrev cX1_changeBar : ByteArray := prog_3_method_4_code
def yX1_changeBar : MethodName := ⟨RX1, "changeBar", "(I)I"⟩
abbrev cX1_changeShares : ByteArray := prog_3_method_5_code
def yX1_changeShares : MethodName := ⟨RX1, "changeShares", "(III)V"⟩
abbrev cX1_changeSeason : ByteArray := prog_3_method_6_code
def yX1_changeSeason : MethodName := ⟨RX1, "changeSeason", "(II)V"⟩
abbrev cX1_shareOn : ByteArray := prog_3_method_7_code
def yX1_shareOn : MethodName := ⟨RX1, "shareOn", "(I)I"⟩
abbrev cX1_chargeAtFirst : ByteArray := prog_3_method_8_code
def yX1_chargeAtFirst : MethodName := ⟨RX1, "chargeAtFirst", "()I"⟩
abbrev cX1_chargeBehind : ByteArray := prog_3_method_9_code
def yX1_chargeBehind : MethodName := ⟨RX1, "chargeBehind", "(IIII)I"⟩
abbrev cX1_chargeFrom : ByteArray := prog_3_method_10_code
def yX1_chargeFrom : MethodName := ⟨RX1, "chargeFrom", "(IIIII)I"⟩
abbrev cX1_chargeAhead : ByteArray := prog_3_method_11_code
def yX1_chargeAhead : MethodName := ⟨RX1, "chargeAhead", "(III)I"⟩
abbrev cX1_daysLasted : ByteArray := prog_3_method_12_code
def yX1_daysLasted : MethodName := ⟨RX1, "daysLasted", "(I)I"⟩
abbrev cX1_levelOf : ByteArray := prog_3_method_13_code
def yX1_levelOf : MethodName := ⟨RX1, "levelOf", "(I)I"⟩
def RX2 : String := "CellDays$Duties"
def TX2 : u_T := fun k => match k with
  | 0 => ("CellDays$Duties", "row", "[LCellDays$Duty;", true)
  | _ => ("CellDays$Duties", "size", "I", false)
def tyX2 : Nat → FieldType := fun k => match k with
  | 0 => .array (.object "CellDays$Duty")
  | _ => .int
abbrev wsX20 : List Cond := u_ws RX2 TX2 2
theorem nmX2 : ∀ a, a < 2 → ∀ b, b < 2 → a ≠ b → (TX2 a).2.1 ≠ (TX2 b).2.1 := by decide +kernel
theorem tyX2_ok : ∀ k, k < 2 → parseFieldDescriptor (TX2 k).2.2.1 = some (tyX2 k) := by decide +kernel
abbrev cX2_init : ByteArray := prog_4_method_1_code
def yX2_init : MethodName := ⟨RX2, "<init>", "()V"⟩
abbrev cX2_isFull : ByteArray := prog_4_method_2_code
def yX2_isFull : MethodName := ⟨RX2, "isFull", "()Z"⟩
abbrev cX2_numbered : ByteArray := prog_4_method_3_code
def yX2_numbered : MethodName := ⟨RX2, "numbered", "(I)LCellDays$Duty;"⟩
abbrev cX2_numberedIn : ByteArray := prog_4_method_4_code
def yX2_numberedIn : MethodName := ⟨RX2, "numberedIn", "(II)LCellDays$Duty;"⟩
abbrev cX2_add : ByteArray := prog_4_method_5_code
def yX2_add : MethodName := ⟨RX2, "add", "(LCellDays$Duty;)I"⟩
abbrev cX2_removeLatest : ByteArray := prog_4_method_6_code
def yX2_removeLatest : MethodName := ⟨RX2, "removeLatest", "()I"⟩
abbrev cX2_setOfOn : ByteArray := prog_4_method_7_code
def yX2_setOfOn : MethodName := ⟨RX2, "setOfOn", "()I"⟩
abbrev cX2_loadOf : ByteArray := prog_4_method_8_code
def yX2_loadOf : MethodName := ⟨RX2, "loadOf", "(III)I"⟩
abbrev cX2_worthOf : ByteArray := prog_4_method_9_code
def yX2_worthOf : MethodName := ⟨RX2, "worthOf", "(I)I"⟩
def RX3 : String := "CellDays$Duty"
def TX3 : u_T := fun k => match k with
  | 0 => ("CellDays$Duty", "kind", "I", true)
  | 1 => ("CellDays$Duty", "load", "I", true)
  | 2 => ("CellDays$Duty", "times", "I", true)
  | 3 => ("CellDays$Duty", "peak", "I", true)
  | 4 => ("CellDays$Duty", "tries", "I", true)
  | 5 => ("CellDays$Duty", "worth", "I", true)
  | _ => ("CellDays$Duty", "isOn", "Z", false)
def tyX3 : Nat → FieldType := fun k => match k with
  | 0 => .int
  | 1 => .int
  | 2 => .int
  | 3 => .int
  | 4 => .int
  | 5 => .int
  | _ => .boolean
abbrev wsX30 : List Cond := u_ws RX3 TX3 7
theorem nmX3 : ∀ a, a < 7 → ∀ b, b < 7 → a ≠ b → (TX3 a).2.1 ≠ (TX3 b).2.1 := by decide +kernel
theorem tyX3_ok : ∀ k, k < 7 → parseFieldDescriptor (TX3 k).2.2.1 = some (tyX3 k) := by decide +kernel
abbrev cX3_init : ByteArray := prog_5_method_1_code
def yX3_init : MethodName := ⟨RX3, "<init>", "(IIIIII)V"⟩
abbrev cX3_drainBy : ByteArray := prog_5_method_2_code
def yX3_drainBy : MethodName := ⟨RX3, "drainBy", "(II)I"⟩
abbrev cX3_traceOfOneAsk : ByteArray := prog_5_method_3_code
def yX3_traceOfOneAsk : MethodName := ⟨RX3, "traceOfOneAsk", "()I"⟩
def RX4 : String := "CellDays$Signs"
def TX4 : u_T := fun k => match k with
  | 0 => ("CellDays$Signs", "days", "[I", true)
  | 1 => ("CellDays$Signs", "levels", "[I", true)
  | 2 => ("CellDays$Signs", "order", "[I", true)
  | _ => ("CellDays$Signs", "size", "I", false)
def tyX4 : Nat → FieldType := fun k => match k with
  | 0 => .array .int
  | 1 => .array .int
  | 2 => .array .int
  | _ => .int
abbrev wsX40 : List Cond := u_ws RX4 TX4 4
theorem nmX4 : ∀ a, a < 4 → ∀ b, b < 4 → a ≠ b → (TX4 a).2.1 ≠ (TX4 b).2.1 := by decide +kernel
theorem tyX4_ok : ∀ k, k < 4 → parseFieldDescriptor (TX4 k).2.2.1 = some (tyX4 k) := by decide +kernel
abbrev cX4_init : ByteArray := prog_6_method_1_code
def yX4_init : MethodName := ⟨RX4, "<init>", "()V"⟩
abbrev cX4_isFull : ByteArray := prog_6_method_2_code
def yX4_isFull : MethodName := ⟨RX4, "isFull", "()Z"⟩
abbrev cX4_add : ByteArray := prog_6_method_3_code
def yX4_add : MethodName := ⟨RX4, "add", "(II)I"⟩
abbrev cX4_removeLatest : ByteArray := prog_6_method_4_code
def yX4_removeLatest : MethodName := ⟨RX4, "removeLatest", "()I"⟩
abbrev cX4_arrange : ByteArray := prog_6_method_5_code
def yX4_arrange : MethodName := ⟨RX4, "arrange", "()V"⟩
abbrev cX4_dayInOrder : ByteArray := prog_6_method_6_code
def yX4_dayInOrder : MethodName := ⟨RX4, "dayInOrder", "(I)I"⟩
abbrev cX4_levelInOrder : ByteArray := prog_6_method_7_code
def yX4_levelInOrder : MethodName := ⟨RX4, "levelInOrder", "(I)I"⟩
def RX5 : String := "CellDays"
def TX5 : u_T := fun k => match k with
  | 0 => ("CellDays", "cell", "LCellDays$Cell;", true)
  | 1 => ("CellDays", "duties", "LCellDays$Duties;", true)
  | 2 => ("CellDays", "signs", "LCellDays$Signs;", true)
  | 3 => ("CellDays", "cases", "LCellDays$Cases;", true)
  | _ => ("CellDays", "asked", "J", false)
def tyX5 : Nat → FieldType := fun k => match k with
  | 0 => .object "CellDays$Cell"
  | 1 => .object "CellDays$Duties"
  | 2 => .object "CellDays$Signs"
  | 3 => .object "CellDays$Cases"
  | _ => .long
abbrev wsX50 : List Cond := u_ws RX5 TX5 5
theorem nmX5 : ∀ a, a < 5 → ∀ b, b < 5 → a ≠ b → (TX5 a).2.1 ≠ (TX5 b).2.1 := by decide +kernel
theorem tyX5_ok : ∀ k, k < 5 → parseFieldDescriptor (TX5 k).2.2.1 = some (tyX5 k) := by decide +kernel
abbrev cX5_init : ByteArray := prog_1_method_1_code
def yX5_init : MethodName := ⟨RX5, "<init>", "()V"⟩
abbrev cX5_set : ByteArray := prog_1_method_2_code
def yX5_set : MethodName := ⟨RX5, "set", "(II)I"⟩
abbrev cX5_shares : ByteArray := prog_1_method_3_code
def yX5_shares : MethodName := ⟨RX5, "shares", "(III)I"⟩
abbrev cX5_season : ByteArray := prog_1_method_4_code
def yX5_season : MethodName := ⟨RX5, "season", "(II)I"⟩
abbrev cX5_share : ByteArray := prog_1_method_5_code
def yX5_share : MethodName := ⟨RX5, "share", "(I)I"⟩
abbrev cX5_duty : ByteArray := prog_1_method_6_code
def yX5_duty : MethodName := ⟨RX5, "duty", "(IIIIII)I"⟩
abbrev cX5_on : ByteArray := prog_1_method_7_code
def yX5_on : MethodName := ⟨RX5, "on", "(IZ)I"⟩
abbrev cX5_drop : ByteArray := prog_1_method_8_code
def yX5_drop : MethodName := ⟨RX5, "drop", "()I"⟩
abbrev cX5_drain : ByteArray := prog_1_method_9_code
def yX5_drain : MethodName := ⟨RX5, "drain", "(II)I"⟩
abbrev cX5_life : ByteArray := prog_1_method_10_code
def yX5_life : MethodName := ⟨RX5, "life", "(I)I"⟩
abbrev cX5_charge : ByteArray := prog_1_method_11_code
def yX5_charge : MethodName := ⟨RX5, "charge", "(II)I"⟩
abbrev cX5_price : ByteArray := prog_1_method_12_code
def yX5_price : MethodName := ⟨RX5, "price", "(I)I"⟩
abbrev cX5_plan : ByteArray := prog_1_method_13_code
def yX5_plan : MethodName := ⟨RX5, "plan", "(II)I"⟩
abbrev cX5_sign : ByteArray := prog_1_method_14_code
def yX5_sign : MethodName := ⟨RX5, "sign", "(II)I"⟩
abbrev cX5_forget : ByteArray := prog_1_method_15_code
def yX5_forget : MethodName := ⟨RX5, "forget", "()I"⟩
abbrev cX5_level : ByteArray := prog_1_method_16_code
def yX5_level : MethodName := ⟨RX5, "level", "(II)I"⟩
abbrev cX5_agrees : ByteArray := prog_1_method_17_code
def yX5_agrees : MethodName := ⟨RX5, "agrees", "(I)I"⟩
abbrev cX5_field : ByteArray := prog_1_method_18_code
def yX5_field : MethodName := ⟨RX5, "field", "(I)I"⟩
abbrev cX5_count : ByteArray := prog_1_method_19_code
def yX5_count : MethodName := ⟨RX5, "count", "(I)I"⟩
abbrev cX5_trace : ByteArray := prog_1_method_20_code
def yX5_trace : MethodName := ⟨RX5, "trace", "()J"⟩
abbrev cX5_sureBy : ByteArray := prog_1_method_21_code
def yX5_sureBy : MethodName := ⟨RX5, "sureBy", "(I)I"⟩
abbrev cX5_worthiestSet : ByteArray := prog_1_method_22_code
def yX5_worthiestSet : MethodName := ⟨RX5, "worthiestSet", "(I)I"⟩
abbrev cX5_within : ByteArray := prog_1_method_23_code
def yX5_within : MethodName := ⟨RX5, "within", "(III)Z"⟩
abbrev cX5_isDay : ByteArray := prog_1_method_24_code
def yX5_isDay : MethodName := ⟨RX5, "isDay", "(I)Z"⟩
abbrev cX5_isTries : ByteArray := prog_1_method_25_code
def yX5_isTries : MethodName := ⟨RX5, "isTries", "(I)Z"⟩
abbrev cX5_powerOfThree : ByteArray := prog_1_method_26_code
def yX5_powerOfThree : MethodName := ⟨RX5, "powerOfThree", "(I)I"⟩
abbrev cX5_at : ByteArray := prog_1_method_27_code
def yX5_at : MethodName := ⟨RX5, "at", "([II)I"⟩
abbrev cX5_put : ByteArray := prog_1_method_28_code
def yX5_put : MethodName := ⟨RX5, "put", "([III)V"⟩
def RX6 : String := "CellDaysModel"
def TX6 : u_T := fun k => match k with
  | 0 => ("CellDaysModel", "thrown", "I", false)
  | 1 => ("CellDaysModel", "trace", "J", false)
  | 2 => ("CellDaysModel", "rules", "[I", true)
  | 3 => ("CellDaysModel", "shares", "[I", true)
  | 4 => ("CellDaysModel", "seasons", "I", false)
  | 5 => ("CellDaysModel", "season", "[I", true)
  | 6 => ("CellDaysModel", "duties", "I", false)
  | 7 => ("CellDaysModel", "kind", "[I", true)
  | 8 => ("CellDaysModel", "load", "[I", true)
  | 9 => ("CellDaysModel", "times", "[I", true)
  | 10 => ("CellDaysModel", "peak", "[I", true)
  | 11 => ("CellDaysModel", "tries", "[I", true)
  | 12 => ("CellDaysModel", "worth", "[I", true)
  | 13 => ("CellDaysModel", "isOn", "[Z", true)
  | 14 => ("CellDaysModel", "signs", "I", false)
  | 15 => ("CellDaysModel", "signDay", "[I", true)
  | 16 => ("CellDaysModel", "signLevel", "[I", true)
  | 17 => ("CellDaysModel", "levels", "[I", true)
  | _ => ("CellDaysModel", "met", "[I", true)
def tyX6 : Nat → FieldType := fun k => match k with
  | 0 => .int
  | 1 => .long
  | 2 => .array .int
  | 3 => .array .int
  | 4 => .int
  | 5 => .array .int
  | 6 => .int
  | 7 => .array .int
  | 8 => .array .int
  | 9 => .array .int
  | 10 => .array .int
  | 11 => .array .int
  | 12 => .array .int
  | 13 => .array .boolean
  | 14 => .int
  | 15 => .array .int
  | 16 => .array .int
  | 17 => .array .int
  | _ => .array .int
abbrev wsX60 : List Cond := u_ws RX6 TX6 19
theorem nmX6 : ∀ a, a < 19 → ∀ b, b < 19 → a ≠ b → (TX6 a).2.1 ≠ (TX6 b).2.1 := by decide +kernel
theorem tyX6_ok : ∀ k, k < 19 → parseFieldDescriptor (TX6 k).2.2.1 = some (tyX6 k) := by decide +kernel
abbrev cX6_init : ByteArray := prog_8_method_1_code
def yX6_init : MethodName := ⟨RX6, "<init>", "()V"⟩
abbrev cX6_in : ByteArray := prog_8_method_3_code
def yX6_in : MethodName := ⟨RX6, "in", "(III)Z"⟩
abbrev cX6_set : ByteArray := prog_8_method_4_code
def yX6_set : MethodName := ⟨RX6, "set", "(II)I"⟩
abbrev cX6_shares : ByteArray := prog_8_method_5_code
def yX6_shares : MethodName := ⟨RX6, "shares", "(III)I"⟩
abbrev cX6_season : ByteArray := prog_8_method_6_code
def yX6_season : MethodName := ⟨RX6, "season", "(II)I"⟩
abbrev cX6_shareOf : ByteArray := prog_8_method_7_code
def yX6_shareOf : MethodName := ⟨RX6, "shareOf", "(I)I"⟩
abbrev cX6_isDay : ByteArray := prog_8_method_8_code
def yX6_isDay : MethodName := ⟨RX6, "isDay", "(I)Z"⟩
abbrev cX6_share : ByteArray := prog_8_method_9_code
def yX6_share : MethodName := ⟨RX6, "share", "(I)I"⟩
abbrev cX6_isDuty : ByteArray := prog_8_method_10_code
def yX6_isDuty : MethodName := ⟨RX6, "isDuty", "(I)Z"⟩
abbrev cX6_duty : ByteArray := prog_8_method_11_code
def yX6_duty : MethodName := ⟨RX6, "duty", "(IIIIII)I"⟩
abbrev cX6_on : ByteArray := prog_8_method_12_code
def yX6_on : MethodName := ⟨RX6, "on", "(IZ)I"⟩
abbrev cX6_drop : ByteArray := prog_8_method_13_code
def yX6_drop : MethodName := ⟨RX6, "drop", "()I"⟩
abbrev cX6_drainOf : ByteArray := prog_8_method_14_code
def yX6_drainOf : MethodName := ⟨RX6, "drainOf", "(II)I"⟩
abbrev cX6_drain : ByteArray := prog_8_method_15_code
def yX6_drain : MethodName := ⟨RX6, "drain", "(II)I"⟩
abbrev cX6_bits : ByteArray := prog_8_method_16_code
def yX6_bits : MethodName := ⟨RX6, "bits", "()I"⟩
abbrev cX6_drains : ByteArray := prog_8_method_17_code
def yX6_drains : MethodName := ⟨RX6, "drains", "(II)I"⟩
abbrev cX6_up : ByteArray := prog_8_method_18_code
def yX6_up : MethodName := ⟨RX6, "up", "(II)I"⟩
abbrev cX6_behind : ByteArray := prog_8_method_19_code
def yX6_behind : MethodName := ⟨RX6, "behind", "(IIII)I"⟩
abbrev cX6_lifeOf : ByteArray := prog_8_method_20_code
def yX6_lifeOf : MethodName := ⟨RX6, "lifeOf", "(III)I"⟩
abbrev cX6_isTries : ByteArray := prog_8_method_21_code
def yX6_isTries : MethodName := ⟨RX6, "isTries", "(I)Z"⟩
abbrev cX6_life : ByteArray := prog_8_method_22_code
def yX6_life : MethodName := ⟨RX6, "life", "(I)I"⟩
abbrev cX6_charge : ByteArray := prog_8_method_23_code
def yX6_charge : MethodName := ⟨RX6, "charge", "(II)I"⟩
abbrev cX6_price : ByteArray := prog_8_method_24_code
def yX6_price : MethodName := ⟨RX6, "price", "(I)I"⟩
abbrev cX6_worthOf : ByteArray := prog_8_method_25_code
def yX6_worthOf : MethodName := ⟨RX6, "worthOf", "(I)I"⟩
abbrev cX6_plan : ByteArray := prog_8_method_26_code
def yX6_plan : MethodName := ⟨RX6, "plan", "(II)I"⟩
abbrev cX6_sign : ByteArray := prog_8_method_27_code
def yX6_sign : MethodName := ⟨RX6, "sign", "(II)I"⟩
abbrev cX6_forget : ByteArray := prog_8_method_28_code
def yX6_forget : MethodName := ⟨RX6, "forget", "()I"⟩
abbrev cX6_empties : ByteArray := prog_8_method_29_code
def yX6_empties : MethodName := ⟨RX6, "empties", "(I)V"⟩
abbrev cX6_isCase : ByteArray := prog_8_method_30_code
def yX6_isCase : MethodName := ⟨RX6, "isCase", "(I)Z"⟩
abbrev cX6_level : ByteArray := prog_8_method_31_code
def yX6_level : MethodName := ⟨RX6, "level", "(II)I"⟩
abbrev cX6_isAgreeing : ByteArray := prog_8_method_32_code
def yX6_isAgreeing : MethodName := ⟨RX6, "isAgreeing", "(I)Z"⟩
abbrev cX6_agrees : ByteArray := prog_8_method_33_code
def yX6_agrees : MethodName := ⟨RX6, "agrees", "(I)I"⟩
abbrev cX6_field : ByteArray := prog_8_method_34_code
def yX6_field : MethodName := ⟨RX6, "field", "(I)I"⟩
abbrev cX6_count : ByteArray := prog_8_method_35_code
def yX6_count : MethodName := ⟨RX6, "count", "(I)I"⟩
abbrev cX6_trace : ByteArray := prog_8_method_36_code
def yX6_trace : MethodName := ⟨RX6, "trace", "()J"⟩
def RJ6 : String := "java/lang/Integer"
def TJ6 : u_T := fun k => match k with
  | _ => ("", "", "", false)
def tyJ6 : Nat → FieldType := fun k => match k with
  | _ => .int
abbrev wsJ60 : List Cond := u_ws RJ6 TJ6 0
theorem nmJ6 : ∀ a, a < 0 → ∀ b, b < 0 → a ≠ b → (TJ6 a).2.1 ≠ (TJ6 b).2.1 := by decide +kernel
theorem tyJ6_ok : ∀ k, k < 0 → parseFieldDescriptor (TJ6 k).2.2.1 = some (tyJ6 k) := by decide +kernel
abbrev cJ6_bitCount_0f7a4 : ByteArray := prog_9_method_49_code
def yJ6_bitCount_0f7a4 : MethodName := ⟨RJ6, "bitCount", "(I)I"⟩
def RJ9 : String := "java/lang/Math"
def TJ9 : u_T := fun k => match k with
  | _ => ("", "", "", false)
def tyJ9 : Nat → FieldType := fun k => match k with
  | _ => .int
abbrev wsJ90 : List Cond := u_ws RJ9 TJ9 0
theorem nmJ9 : ∀ a, a < 0 → ∀ b, b < 0 → a ≠ b → (TJ9 a).2.1 ≠ (TJ9 b).2.1 := by decide +kernel
theorem tyJ9_ok : ∀ k, k < 0 → parseFieldDescriptor (TJ9 k).2.2.1 = some (tyJ9 k) := by decide +kernel
abbrev cJ9_max_7cf53 : ByteArray := prog_10_method_65_code
def yJ9_max_7cf53 : MethodName := ⟨RJ9, "max", "(II)I"⟩
abbrev cJ9_min_7cf53 : ByteArray := prog_10_method_69_code
def yJ9_min_7cf53 : MethodName := ⟨RJ9, "min", "(II)I"⟩
def RL : String := "CellDaysLaw"
abbrev cL_law : ByteArray := code
def yL_law : MethodName := ⟨RL, "law", "([I)Z"⟩
def wsX0_init : List Cond := .code yX0_init cX0_init 4 none :: ([.methodLink RX0 5 objectInit, .instanceMethod objectInit, .code objectInit ⟨#[0xb1]⟩ 1 none, .arrayClass .int, .fieldLink RX0 11 "CellDays$Cases" "agreeing" "[I", .fieldLink RX0 15 "CellDays$Cases" "loads" "[I", .fieldLink RX0 18 "CellDays$Cases" "charges" "[I", .fieldLink RX0 23 "CellDays$Cases" "atLevel" "[I", .fieldLink RX0 26 "CellDays$Cases" "agreed" "I", .fieldLink RX0 30 "CellDays$Cases" "cell" "LCellDays$Cell;", .fieldLink RX0 34 "CellDays$Cases" "duties" "LCellDays$Duties;", .fieldLink RX0 38 "CellDays$Cases" "signs" "LCellDays$Signs;"] ++ wsX00)
def wsX5_within : List Cond := .code yX5_within cX5_within 3 (some .boolean) :: ([])
def wsX0_isNumber : List Cond := .code yX0_isNumber cX0_isNumber 1 (some .boolean) :: ([.static yX5_within, .initialized RX5, .code yX5_within cX5_within 3 (some .boolean)])
def wsX0_oddOf : List Cond := .code yX0_oddOf cX0_oddOf 1 (some .int) :: ([])
def wsX0_leakOf : List Cond := .code yX0_leakOf cX0_leakOf 2 (some .int) :: ([.fieldLink RX0 30 "CellDays$Cases" "cell" "LCellDays$Cell;"] ++ wsX00 ++ wsX10)
def wsX2_numbered : List Cond := .code yX2_numbered cX2_numbered 2 (some (.object "CellDays$Duty")) :: ([.fieldLink RX2 15 "CellDays$Duties" "size" "I", .fieldLink RX2 9 "CellDays$Duties" "row" "[LCellDays$Duty;"] ++ wsX20)
def wsX2_setOfOn : List Cond := .code yX2_setOfOn cX2_setOfOn 4 (some .int) :: ([.fieldLink RX2 15 "CellDays$Duties" "size" "I", .methodLink RX2 19 yX2_numbered, .instanceMethod yX2_numbered, .selects RX2 yX2_numbered yX2_numbered, .initialized RX2, .code yX2_numbered cX2_numbered 2 (some (.object "CellDays$Duty")), .fieldLink RX2 9 "CellDays$Duties" "row" "[LCellDays$Duty;"] ++ wsX20 ++ wsX30)
def wsX2_numberedIn : List Cond := .code yX2_numberedIn cX2_numberedIn 3 (some (.object "CellDays$Duty")) :: ([.methodLink RX2 19 yX2_numbered, .instanceMethod yX2_numbered, .selects RX2 yX2_numbered yX2_numbered, .initialized RX2, .code yX2_numbered cX2_numbered 2 (some (.object "CellDays$Duty")), .fieldLink RX2 15 "CellDays$Duties" "size" "I", .fieldLink RX2 9 "CellDays$Duties" "row" "[LCellDays$Duty;"] ++ wsX20)
def wsX3_drainBy : List Cond := .code yX3_drainBy cX3_drainBy 4 (some .int) :: ([.fieldLink RX3 15 "CellDays$Duty" "load" "I", .fieldLink RX3 18 "CellDays$Duty" "times" "I", .fieldLink RX3 9 "CellDays$Duty" "kind" "I", .fieldLink RX3 21 "CellDays$Duty" "peak" "I", .methodLink RX3 34 Lib.Math.max.name, .static Lib.Math.max.name, .initialized "java/lang/Math", .code Lib.Math.max.name Lib.Math.max.code 2 (some .int), .fieldLink RX3 24 "CellDays$Duty" "tries" "I", .methodLink RX3 40 Lib.Math.min.name, .static Lib.Math.min.name, .code Lib.Math.min.name Lib.Math.min.code 2 (some .int)] ++ wsX30)
def wsX2_loadOf_r1 : List Cond := [Cond.fieldLink RX2 15 "CellDays$Duties" "size" "I", Cond.methodLink RX2 27 yX2_numberedIn, Cond.instanceMethod yX2_numberedIn, Cond.selects RX2 yX2_numberedIn yX2_numberedIn, Cond.initialized RX2, Cond.code yX2_numberedIn cX2_numberedIn 3 (some (.object "CellDays$Duty")), Cond.methodLink RX2 19 yX2_numbered, Cond.instanceMethod yX2_numbered, Cond.selects RX2 yX2_numbered yX2_numbered, Cond.code yX2_numbered cX2_numbered 2 (some (.object "CellDays$Duty")), Cond.fieldLink RX2 9 "CellDays$Duties" "row" "[LCellDays$Duty;", Cond.methodLink RX2 31 yX3_drainBy, Cond.instanceMethod yX3_drainBy, Cond.selects RX3 yX3_drainBy yX3_drainBy, Cond.initialized RX3, Cond.code yX3_drainBy cX3_drainBy 4 (some .int), Cond.fieldLink RX3 15 "CellDays$Duty" "load" "I", Cond.fieldLink RX3 18 "CellDays$Duty" "times" "I", Cond.fieldLink RX3 9 "CellDays$Duty" "kind" "I", Cond.fieldLink RX3 21 "CellDays$Duty" "peak" "I", Cond.methodLink RX3 34 Lib.Math.max.name, Cond.static Lib.Math.max.name, Cond.initialized "java/lang/Math", Cond.code Lib.Math.max.name Lib.Math.max.code 2 (some .int)]
def wsX2_loadOf_r2 : List Cond := [Cond.fieldLink RX3 24 "CellDays$Duty" "tries" "I", Cond.methodLink RX3 40 Lib.Math.min.name, Cond.static Lib.Math.min.name, Cond.code Lib.Math.min.name Lib.Math.min.code 2 (some .int)]
def wsX2_loadOf : List Cond := .code yX2_loadOf cX2_loadOf 7 (some .int) :: ((wsX2_loadOf_r1 ++ wsX2_loadOf_r2) ++ wsX20 ++ wsX30)
def wsX0_loadOfCase_r1 : List Cond := [Cond.fieldLink RX0 34 "CellDays$Cases" "duties" "LCellDays$Duties;", Cond.fieldLink RX0 30 "CellDays$Cases" "cell" "LCellDays$Cell;", Cond.methodLink RX0 49 yX2_setOfOn, Cond.instanceMethod yX2_setOfOn, Cond.selects RX2 yX2_setOfOn yX2_setOfOn, Cond.initialized RX2, Cond.code yX2_setOfOn cX2_setOfOn 4 (some .int), Cond.fieldLink RX2 15 "CellDays$Duties" "size" "I", Cond.methodLink RX2 19 yX2_numbered, Cond.instanceMethod yX2_numbered, Cond.selects RX2 yX2_numbered yX2_numbered, Cond.code yX2_numbered cX2_numbered 2 (some (.object "CellDays$Duty")), Cond.fieldLink RX2 9 "CellDays$Duties" "row" "[LCellDays$Duty;", Cond.methodLink RX0 58 yX2_loadOf, Cond.instanceMethod yX2_loadOf, Cond.selects RX2 yX2_loadOf yX2_loadOf, Cond.code yX2_loadOf cX2_loadOf 7 (some .int), Cond.methodLink RX2 27 yX2_numberedIn, Cond.instanceMethod yX2_numberedIn, Cond.selects RX2 yX2_numberedIn yX2_numberedIn, Cond.code yX2_numberedIn cX2_numberedIn 3 (some (.object "CellDays$Duty")), Cond.methodLink RX2 31 yX3_drainBy, Cond.instanceMethod yX3_drainBy, Cond.selects RX3 yX3_drainBy yX3_drainBy]
def wsX0_loadOfCase_r2 : List Cond := [Cond.initialized RX3, Cond.code yX3_drainBy cX3_drainBy 4 (some .int), Cond.fieldLink RX3 15 "CellDays$Duty" "load" "I", Cond.fieldLink RX3 18 "CellDays$Duty" "times" "I", Cond.fieldLink RX3 9 "CellDays$Duty" "kind" "I", Cond.fieldLink RX3 21 "CellDays$Duty" "peak" "I", Cond.methodLink RX3 34 Lib.Math.max.name, Cond.static Lib.Math.max.name, Cond.initialized "java/lang/Math", Cond.code Lib.Math.max.name Lib.Math.max.code 2 (some .int), Cond.fieldLink RX3 24 "CellDays$Duty" "tries" "I", Cond.methodLink RX3 40 Lib.Math.min.name, Cond.static Lib.Math.min.name, Cond.code Lib.Math.min.name Lib.Math.min.code 2 (some .int), Cond.methodLink RX0 62 yX0_oddOf, Cond.static yX0_oddOf, Cond.initialized RX0, Cond.code yX0_oddOf cX0_oddOf 1 (some .int)]
def wsX0_loadOfCase : List Cond := .code yX0_loadOfCase cX0_loadOfCase 3 (some .int) :: ((wsX0_loadOfCase_r1 ++ wsX0_loadOfCase_r2) ++ wsX00 ++ wsX10 ++ wsX20 ++ wsX30)
def wsX1_chargeAtFirst : List Cond := .code yX1_chargeAtFirst cX1_chargeAtFirst 1 (some .int) :: ([.fieldLink RX1 22 "CellDays$Cell" "room" "I"] ++ wsX10)
def wsX5_at : List Cond := .code yX5_at cX5_at 2 (some .int) :: ([])
def wsX1_shareOn : List Cond := .code yX1_shareOn cX1_shareOn 3 (some .int) :: ([.fieldLink RX1 18 "CellDays$Cell" "places" "I", .fieldLink RX1 9 "CellDays$Cell" "sharesByWarmth" "[I", .fieldLink RX1 15 "CellDays$Cell" "warmths" "[I", .static yX5_at, .initialized RX5, .code yX5_at cX5_at 2 (some .int)] ++ wsX10)
def wsX1_chargeBehind : List Cond := .code yX1_chargeBehind cX1_chargeBehind 7 (some .int) :: ([])
def wsX1_chargeFrom : List Cond := .code yX1_chargeFrom cX1_chargeFrom 8 (some .int) :: ([.methodLink RX1 39 yX1_shareOn, .instanceMethod yX1_shareOn, .selects RX1 yX1_shareOn yX1_shareOn, .initialized RX1, .code yX1_shareOn cX1_shareOn 3 (some .int), .fieldLink RX1 18 "CellDays$Cell" "places" "I", .fieldLink RX1 9 "CellDays$Cell" "sharesByWarmth" "[I", .fieldLink RX1 15 "CellDays$Cell" "warmths" "[I", .static yX5_at, .initialized RX5, .code yX5_at cX5_at 2 (some .int), .methodLink RX1 43 yX1_chargeBehind, .instanceMethod yX1_chargeBehind, .selects RX1 yX1_chargeBehind yX1_chargeBehind, .code yX1_chargeBehind cX1_chargeBehind 7 (some .int)] ++ wsX10)
def wsX1_chargeAhead : List Cond := .code yX1_chargeAhead cX1_chargeAhead 4 (some .int) :: ([.methodLink RX1 47 yX1_chargeAtFirst, .instanceMethod yX1_chargeAtFirst, .selects RX1 yX1_chargeAtFirst yX1_chargeAtFirst, .initialized RX1, .code yX1_chargeAtFirst cX1_chargeAtFirst 1 (some .int), .fieldLink RX1 22 "CellDays$Cell" "room" "I", .methodLink RX1 51 yX1_chargeFrom, .instanceMethod yX1_chargeFrom, .selects RX1 yX1_chargeFrom yX1_chargeFrom, .code yX1_chargeFrom cX1_chargeFrom 8 (some .int), .methodLink RX1 39 yX1_shareOn, .instanceMethod yX1_shareOn, .selects RX1 yX1_shareOn yX1_shareOn, .code yX1_shareOn cX1_shareOn 3 (some .int), .fieldLink RX1 18 "CellDays$Cell" "places" "I", .fieldLink RX1 9 "CellDays$Cell" "sharesByWarmth" "[I", .fieldLink RX1 15 "CellDays$Cell" "warmths" "[I", .static yX5_at, .initialized RX5, .code yX5_at cX5_at 2 (some .int), .methodLink RX1 43 yX1_chargeBehind, .instanceMethod yX1_chargeBehind, .selects RX1 yX1_chargeBehind yX1_chargeBehind, .code yX1_chargeBehind cX1_chargeBehind 7 (some .int)] ++ wsX10)
def wsX1_levelOf : List Cond := .code yX1_levelOf cX1_levelOf 3 (some .int) :: ([.methodLink RX1 55 Lib.Math.min.name, .static Lib.Math.min.name, .initialized "java/lang/Math", .code Lib.Math.min.name Lib.Math.min.code 2 (some .int), .methodLink RX1 47 yX1_chargeAtFirst, .instanceMethod yX1_chargeAtFirst, .selects RX1 yX1_chargeAtFirst yX1_chargeAtFirst, .initialized RX1, .code yX1_chargeAtFirst cX1_chargeAtFirst 1 (some .int), .fieldLink RX1 22 "CellDays$Cell" "room" "I"] ++ wsX10)
def wsX0_levelAhead_r1 : List Cond := [Cond.fieldLink RX0 30 "CellDays$Cases" "cell" "LCellDays$Cell;", Cond.methodLink RX0 66 yX0_leakOf, Cond.instanceMethod yX0_leakOf, Cond.selects RX0 yX0_leakOf yX0_leakOf, Cond.initialized RX0, Cond.code yX0_leakOf cX0_leakOf 2 (some .int), Cond.methodLink RX0 69 yX0_loadOfCase, Cond.instanceMethod yX0_loadOfCase, Cond.selects RX0 yX0_loadOfCase yX0_loadOfCase, Cond.code yX0_loadOfCase cX0_loadOfCase 3 (some .int), Cond.fieldLink RX0 34 "CellDays$Cases" "duties" "LCellDays$Duties;", Cond.methodLink RX0 49 yX2_setOfOn, Cond.instanceMethod yX2_setOfOn, Cond.selects RX2 yX2_setOfOn yX2_setOfOn, Cond.initialized RX2, Cond.code yX2_setOfOn cX2_setOfOn 4 (some .int), Cond.fieldLink RX2 15 "CellDays$Duties" "size" "I", Cond.methodLink RX2 19 yX2_numbered, Cond.instanceMethod yX2_numbered, Cond.selects RX2 yX2_numbered yX2_numbered, Cond.code yX2_numbered cX2_numbered 2 (some (.object "CellDays$Duty")), Cond.fieldLink RX2 9 "CellDays$Duties" "row" "[LCellDays$Duty;", Cond.methodLink RX0 58 yX2_loadOf, Cond.instanceMethod yX2_loadOf]
def wsX0_levelAhead_r2 : List Cond := [Cond.selects RX2 yX2_loadOf yX2_loadOf, Cond.code yX2_loadOf cX2_loadOf 7 (some .int), Cond.methodLink RX2 27 yX2_numberedIn, Cond.instanceMethod yX2_numberedIn, Cond.selects RX2 yX2_numberedIn yX2_numberedIn, Cond.code yX2_numberedIn cX2_numberedIn 3 (some (.object "CellDays$Duty")), Cond.methodLink RX2 31 yX3_drainBy, Cond.instanceMethod yX3_drainBy, Cond.selects RX3 yX3_drainBy yX3_drainBy, Cond.initialized RX3, Cond.code yX3_drainBy cX3_drainBy 4 (some .int), Cond.fieldLink RX3 15 "CellDays$Duty" "load" "I", Cond.fieldLink RX3 18 "CellDays$Duty" "times" "I", Cond.fieldLink RX3 9 "CellDays$Duty" "kind" "I", Cond.fieldLink RX3 21 "CellDays$Duty" "peak" "I", Cond.methodLink RX3 34 Lib.Math.max.name, Cond.static Lib.Math.max.name, Cond.initialized "java/lang/Math", Cond.code Lib.Math.max.name Lib.Math.max.code 2 (some .int), Cond.fieldLink RX3 24 "CellDays$Duty" "tries" "I", Cond.methodLink RX3 40 Lib.Math.min.name, Cond.static Lib.Math.min.name, Cond.code Lib.Math.min.name Lib.Math.min.code 2 (some .int), Cond.methodLink RX0 62 yX0_oddOf]
def wsX0_levelAhead_r3 : List Cond := [Cond.static yX0_oddOf, Cond.code yX0_oddOf cX0_oddOf 1 (some .int), Cond.methodLink RX0 72 yX1_chargeAhead, Cond.instanceMethod yX1_chargeAhead, Cond.selects RX1 yX1_chargeAhead yX1_chargeAhead, Cond.initialized RX1, Cond.code yX1_chargeAhead cX1_chargeAhead 4 (some .int), Cond.methodLink RX1 47 yX1_chargeAtFirst, Cond.instanceMethod yX1_chargeAtFirst, Cond.selects RX1 yX1_chargeAtFirst yX1_chargeAtFirst, Cond.code yX1_chargeAtFirst cX1_chargeAtFirst 1 (some .int), Cond.fieldLink RX1 22 "CellDays$Cell" "room" "I", Cond.methodLink RX1 51 yX1_chargeFrom, Cond.instanceMethod yX1_chargeFrom, Cond.selects RX1 yX1_chargeFrom yX1_chargeFrom, Cond.code yX1_chargeFrom cX1_chargeFrom 8 (some .int), Cond.methodLink RX1 39 yX1_shareOn, Cond.instanceMethod yX1_shareOn, Cond.selects RX1 yX1_shareOn yX1_shareOn, Cond.code yX1_shareOn cX1_shareOn 3 (some .int), Cond.fieldLink RX1 18 "CellDays$Cell" "places" "I", Cond.fieldLink RX1 9 "CellDays$Cell" "sharesByWarmth" "[I", Cond.fieldLink RX1 15 "CellDays$Cell" "warmths" "[I", Cond.static yX5_at]
def wsX0_levelAhead_r4 : List Cond := [Cond.initialized RX5, Cond.code yX5_at cX5_at 2 (some .int), Cond.methodLink RX1 43 yX1_chargeBehind, Cond.instanceMethod yX1_chargeBehind, Cond.selects RX1 yX1_chargeBehind yX1_chargeBehind, Cond.code yX1_chargeBehind cX1_chargeBehind 7 (some .int), Cond.methodLink RX0 75 yX1_levelOf, Cond.instanceMethod yX1_levelOf, Cond.selects RX1 yX1_levelOf yX1_levelOf, Cond.code yX1_levelOf cX1_levelOf 3 (some .int), Cond.methodLink RX1 55 Lib.Math.min.name]
def wsX0_levelAhead : List Cond := .code yX0_levelAhead cX0_levelAhead 3 (some .int) :: ((wsX0_levelAhead_r1 ++ (wsX0_levelAhead_r2 ++ (wsX0_levelAhead_r3 ++ wsX0_levelAhead_r4))) ++ wsX00 ++ wsX10 ++ wsX20 ++ wsX30)
def wsX4_dayInOrder : List Cond := .code yX4_dayInOrder cX4_dayInOrder 2 (some .int) :: ([.fieldLink RX4 9 "CellDays$Signs" "days" "[I", .fieldLink RX4 16 "CellDays$Signs" "order" "[I", .static yX5_at, .initialized RX5, .code yX5_at cX5_at 2 (some .int)] ++ wsX40)
def wsX4_levelInOrder : List Cond := .code yX4_levelInOrder cX4_levelInOrder 2 (some .int) :: ([.fieldLink RX4 13 "CellDays$Signs" "levels" "[I", .fieldLink RX4 16 "CellDays$Signs" "order" "[I", .static yX5_at, .initialized RX5, .code yX5_at cX5_at 2 (some .int)] ++ wsX40)
def wsX0_fitsSigns_r1 : List Cond := [Cond.fieldLink RX0 30 "CellDays$Cases" "cell" "LCellDays$Cell;", Cond.fieldLink RX0 38 "CellDays$Cases" "signs" "LCellDays$Signs;", Cond.methodLink RX0 66 yX0_leakOf, Cond.instanceMethod yX0_leakOf, Cond.selects RX0 yX0_leakOf yX0_leakOf, Cond.initialized RX0, Cond.code yX0_leakOf cX0_leakOf 2 (some .int), Cond.methodLink RX0 69 yX0_loadOfCase, Cond.instanceMethod yX0_loadOfCase, Cond.selects RX0 yX0_loadOfCase yX0_loadOfCase, Cond.code yX0_loadOfCase cX0_loadOfCase 3 (some .int), Cond.fieldLink RX0 34 "CellDays$Cases" "duties" "LCellDays$Duties;", Cond.methodLink RX0 49 yX2_setOfOn, Cond.instanceMethod yX2_setOfOn, Cond.selects RX2 yX2_setOfOn yX2_setOfOn, Cond.initialized RX2, Cond.code yX2_setOfOn cX2_setOfOn 4 (some .int), Cond.fieldLink RX2 15 "CellDays$Duties" "size" "I", Cond.methodLink RX2 19 yX2_numbered, Cond.instanceMethod yX2_numbered, Cond.selects RX2 yX2_numbered yX2_numbered, Cond.code yX2_numbered cX2_numbered 2 (some (.object "CellDays$Duty")), Cond.fieldLink RX2 9 "CellDays$Duties" "row" "[LCellDays$Duty;", Cond.methodLink RX0 58 yX2_loadOf]
def wsX0_fitsSigns_r2 : List Cond := [Cond.instanceMethod yX2_loadOf, Cond.selects RX2 yX2_loadOf yX2_loadOf, Cond.code yX2_loadOf cX2_loadOf 7 (some .int), Cond.methodLink RX2 27 yX2_numberedIn, Cond.instanceMethod yX2_numberedIn, Cond.selects RX2 yX2_numberedIn yX2_numberedIn, Cond.code yX2_numberedIn cX2_numberedIn 3 (some (.object "CellDays$Duty")), Cond.methodLink RX2 31 yX3_drainBy, Cond.instanceMethod yX3_drainBy, Cond.selects RX3 yX3_drainBy yX3_drainBy, Cond.initialized RX3, Cond.code yX3_drainBy cX3_drainBy 4 (some .int), Cond.fieldLink RX3 15 "CellDays$Duty" "load" "I", Cond.fieldLink RX3 18 "CellDays$Duty" "times" "I", Cond.fieldLink RX3 9 "CellDays$Duty" "kind" "I", Cond.fieldLink RX3 21 "CellDays$Duty" "peak" "I", Cond.methodLink RX3 34 Lib.Math.max.name, Cond.static Lib.Math.max.name, Cond.initialized "java/lang/Math", Cond.code Lib.Math.max.name Lib.Math.max.code 2 (some .int), Cond.fieldLink RX3 24 "CellDays$Duty" "tries" "I", Cond.methodLink RX3 40 Lib.Math.min.name, Cond.static Lib.Math.min.name, Cond.code Lib.Math.min.name Lib.Math.min.code 2 (some .int)]
def wsX0_fitsSigns_r3 : List Cond := [Cond.methodLink RX0 62 yX0_oddOf, Cond.static yX0_oddOf, Cond.code yX0_oddOf cX0_oddOf 1 (some .int), Cond.methodLink RX0 78 yX1_chargeAtFirst, Cond.instanceMethod yX1_chargeAtFirst, Cond.selects RX1 yX1_chargeAtFirst yX1_chargeAtFirst, Cond.initialized RX1, Cond.code yX1_chargeAtFirst cX1_chargeAtFirst 1 (some .int), Cond.fieldLink RX1 22 "CellDays$Cell" "room" "I", Cond.methodLink RX0 86 yX4_dayInOrder, Cond.instanceMethod yX4_dayInOrder, Cond.selects RX4 yX4_dayInOrder yX4_dayInOrder, Cond.initialized RX4, Cond.code yX4_dayInOrder cX4_dayInOrder 2 (some .int), Cond.fieldLink RX4 9 "CellDays$Signs" "days" "[I", Cond.fieldLink RX4 16 "CellDays$Signs" "order" "[I", Cond.static yX5_at, Cond.initialized RX5, Cond.code yX5_at cX5_at 2 (some .int), Cond.methodLink RX0 89 yX1_chargeFrom, Cond.instanceMethod yX1_chargeFrom, Cond.selects RX1 yX1_chargeFrom yX1_chargeFrom, Cond.code yX1_chargeFrom cX1_chargeFrom 8 (some .int), Cond.methodLink RX1 39 yX1_shareOn]
def wsX0_fitsSigns_r4 : List Cond := [Cond.instanceMethod yX1_shareOn, Cond.selects RX1 yX1_shareOn yX1_shareOn, Cond.code yX1_shareOn cX1_shareOn 3 (some .int), Cond.fieldLink RX1 18 "CellDays$Cell" "places" "I", Cond.fieldLink RX1 9 "CellDays$Cell" "sharesByWarmth" "[I", Cond.fieldLink RX1 15 "CellDays$Cell" "warmths" "[I", Cond.methodLink RX1 43 yX1_chargeBehind, Cond.instanceMethod yX1_chargeBehind, Cond.selects RX1 yX1_chargeBehind yX1_chargeBehind, Cond.code yX1_chargeBehind cX1_chargeBehind 7 (some .int), Cond.methodLink RX0 75 yX1_levelOf, Cond.instanceMethod yX1_levelOf, Cond.selects RX1 yX1_levelOf yX1_levelOf, Cond.code yX1_levelOf cX1_levelOf 3 (some .int), Cond.methodLink RX1 55 Lib.Math.min.name, Cond.methodLink RX1 47 yX1_chargeAtFirst, Cond.methodLink RX0 93 yX4_levelInOrder, Cond.instanceMethod yX4_levelInOrder, Cond.selects RX4 yX4_levelInOrder yX4_levelInOrder, Cond.code yX4_levelInOrder cX4_levelInOrder 2 (some .int), Cond.fieldLink RX4 13 "CellDays$Signs" "levels" "[I"]
def wsX0_fitsSigns : List Cond := .code yX0_fitsSigns cX0_fitsSigns 8 (some .boolean) :: ((wsX0_fitsSigns_r1 ++ (wsX0_fitsSigns_r2 ++ (wsX0_fitsSigns_r3 ++ wsX0_fitsSigns_r4))) ++ wsX00 ++ wsX40 ++ wsX10 ++ wsX20 ++ wsX30)
def wsX5_put : List Cond := .code yX5_put cX5_put 3 none :: ([])
def wsX0_gatherAgreeing_r1 : List Cond := [Cond.fieldLink RX0 26 "CellDays$Cases" "agreed" "I", Cond.fieldLink RX0 11 "CellDays$Cases" "agreeing" "[I", Cond.methodLink RX0 96 yX0_fitsSigns, Cond.instanceMethod yX0_fitsSigns, Cond.selects RX0 yX0_fitsSigns yX0_fitsSigns, Cond.initialized RX0, Cond.code yX0_fitsSigns cX0_fitsSigns 8 (some .boolean), Cond.fieldLink RX0 30 "CellDays$Cases" "cell" "LCellDays$Cell;", Cond.fieldLink RX0 38 "CellDays$Cases" "signs" "LCellDays$Signs;", Cond.methodLink RX0 66 yX0_leakOf, Cond.instanceMethod yX0_leakOf, Cond.selects RX0 yX0_leakOf yX0_leakOf, Cond.code yX0_leakOf cX0_leakOf 2 (some .int), Cond.methodLink RX0 69 yX0_loadOfCase, Cond.instanceMethod yX0_loadOfCase, Cond.selects RX0 yX0_loadOfCase yX0_loadOfCase, Cond.code yX0_loadOfCase cX0_loadOfCase 3 (some .int), Cond.fieldLink RX0 34 "CellDays$Cases" "duties" "LCellDays$Duties;", Cond.methodLink RX0 49 yX2_setOfOn, Cond.instanceMethod yX2_setOfOn, Cond.selects RX2 yX2_setOfOn yX2_setOfOn, Cond.initialized RX2, Cond.code yX2_setOfOn cX2_setOfOn 4 (some .int), Cond.fieldLink RX2 15 "CellDays$Duties" "size" "I"]
def wsX0_gatherAgreeing_r2 : List Cond := [Cond.methodLink RX2 19 yX2_numbered, Cond.instanceMethod yX2_numbered, Cond.selects RX2 yX2_numbered yX2_numbered, Cond.code yX2_numbered cX2_numbered 2 (some (.object "CellDays$Duty")), Cond.fieldLink RX2 9 "CellDays$Duties" "row" "[LCellDays$Duty;", Cond.methodLink RX0 58 yX2_loadOf, Cond.instanceMethod yX2_loadOf, Cond.selects RX2 yX2_loadOf yX2_loadOf, Cond.code yX2_loadOf cX2_loadOf 7 (some .int), Cond.methodLink RX2 27 yX2_numberedIn, Cond.instanceMethod yX2_numberedIn, Cond.selects RX2 yX2_numberedIn yX2_numberedIn, Cond.code yX2_numberedIn cX2_numberedIn 3 (some (.object "CellDays$Duty")), Cond.methodLink RX2 31 yX3_drainBy, Cond.instanceMethod yX3_drainBy, Cond.selects RX3 yX3_drainBy yX3_drainBy, Cond.initialized RX3, Cond.code yX3_drainBy cX3_drainBy 4 (some .int), Cond.fieldLink RX3 15 "CellDays$Duty" "load" "I", Cond.fieldLink RX3 18 "CellDays$Duty" "times" "I", Cond.fieldLink RX3 9 "CellDays$Duty" "kind" "I", Cond.fieldLink RX3 21 "CellDays$Duty" "peak" "I", Cond.methodLink RX3 34 Lib.Math.max.name, Cond.static Lib.Math.max.name]
def wsX0_gatherAgreeing_r3 : List Cond := [Cond.initialized "java/lang/Math", Cond.code Lib.Math.max.name Lib.Math.max.code 2 (some .int), Cond.fieldLink RX3 24 "CellDays$Duty" "tries" "I", Cond.methodLink RX3 40 Lib.Math.min.name, Cond.static Lib.Math.min.name, Cond.code Lib.Math.min.name Lib.Math.min.code 2 (some .int), Cond.methodLink RX0 62 yX0_oddOf, Cond.static yX0_oddOf, Cond.code yX0_oddOf cX0_oddOf 1 (some .int), Cond.methodLink RX0 78 yX1_chargeAtFirst, Cond.instanceMethod yX1_chargeAtFirst, Cond.selects RX1 yX1_chargeAtFirst yX1_chargeAtFirst, Cond.initialized RX1, Cond.code yX1_chargeAtFirst cX1_chargeAtFirst 1 (some .int), Cond.fieldLink RX1 22 "CellDays$Cell" "room" "I", Cond.methodLink RX0 86 yX4_dayInOrder, Cond.instanceMethod yX4_dayInOrder, Cond.selects RX4 yX4_dayInOrder yX4_dayInOrder, Cond.initialized RX4, Cond.code yX4_dayInOrder cX4_dayInOrder 2 (some .int), Cond.fieldLink RX4 9 "CellDays$Signs" "days" "[I", Cond.fieldLink RX4 16 "CellDays$Signs" "order" "[I", Cond.static yX5_at, Cond.initialized RX5]
def wsX0_gatherAgreeing_r4 : List Cond := [Cond.code yX5_at cX5_at 2 (some .int), Cond.methodLink RX0 89 yX1_chargeFrom, Cond.instanceMethod yX1_chargeFrom, Cond.selects RX1 yX1_chargeFrom yX1_chargeFrom, Cond.code yX1_chargeFrom cX1_chargeFrom 8 (some .int), Cond.methodLink RX1 39 yX1_shareOn, Cond.instanceMethod yX1_shareOn, Cond.selects RX1 yX1_shareOn yX1_shareOn, Cond.code yX1_shareOn cX1_shareOn 3 (some .int), Cond.fieldLink RX1 18 "CellDays$Cell" "places" "I", Cond.fieldLink RX1 9 "CellDays$Cell" "sharesByWarmth" "[I", Cond.fieldLink RX1 15 "CellDays$Cell" "warmths" "[I", Cond.methodLink RX1 43 yX1_chargeBehind, Cond.instanceMethod yX1_chargeBehind, Cond.selects RX1 yX1_chargeBehind yX1_chargeBehind, Cond.code yX1_chargeBehind cX1_chargeBehind 7 (some .int), Cond.methodLink RX0 75 yX1_levelOf, Cond.instanceMethod yX1_levelOf, Cond.selects RX1 yX1_levelOf yX1_levelOf, Cond.code yX1_levelOf cX1_levelOf 3 (some .int), Cond.methodLink RX1 55 Lib.Math.min.name, Cond.methodLink RX1 47 yX1_chargeAtFirst, Cond.methodLink RX0 93 yX4_levelInOrder, Cond.instanceMethod yX4_levelInOrder]
def wsX0_gatherAgreeing_r5 : List Cond := [Cond.selects RX4 yX4_levelInOrder yX4_levelInOrder, Cond.code yX4_levelInOrder cX4_levelInOrder 2 (some .int), Cond.fieldLink RX4 13 "CellDays$Signs" "levels" "[I", Cond.static yX5_put, Cond.code yX5_put cX5_put 3 none]
def wsX0_gatherAgreeing : List Cond := .code yX0_gatherAgreeing cX0_gatherAgreeing 2 none :: ((wsX0_gatherAgreeing_r1 ++ (wsX0_gatherAgreeing_r2 ++ (wsX0_gatherAgreeing_r3 ++ (wsX0_gatherAgreeing_r4 ++ wsX0_gatherAgreeing_r5)))) ++ wsX00 ++ wsX40 ++ wsX10 ++ wsX20 ++ wsX30)
def wsX0_leastAgreeing : List Cond := .code yX0_leastAgreeing cX0_leastAgreeing 1 (some .int) :: ([.fieldLink RX0 26 "CellDays$Cases" "agreed" "I", .fieldLink RX0 11 "CellDays$Cases" "agreeing" "[I", .static yX5_at, .initialized RX5, .code yX5_at cX5_at 2 (some .int)] ++ wsX00)
def wsX0_isOdd : List Cond := .code yX0_isOdd cX0_isOdd 2 (some .boolean) :: ([.fieldLink RX0 26 "CellDays$Cases" "agreed" "I", .fieldLink RX0 11 "CellDays$Cases" "agreeing" "[I", .static yX5_at, .initialized RX5, .code yX5_at cX5_at 2 (some .int), .methodLink RX0 62 yX0_oddOf, .static yX0_oddOf, .initialized RX0, .code yX0_oddOf cX0_oddOf 1 (some .int)] ++ wsX00)
def wsX0_startAgreeing_r1 : List Cond := [Cond.fieldLink RX0 26 "CellDays$Cases" "agreed" "I", Cond.fieldLink RX0 15 "CellDays$Cases" "loads" "[I", Cond.fieldLink RX0 11 "CellDays$Cases" "agreeing" "[I", Cond.fieldLink RX0 18 "CellDays$Cases" "charges" "[I", Cond.fieldLink RX0 30 "CellDays$Cases" "cell" "LCellDays$Cell;", Cond.static yX5_at, Cond.initialized RX5, Cond.code yX5_at cX5_at 2 (some .int), Cond.methodLink RX0 69 yX0_loadOfCase, Cond.instanceMethod yX0_loadOfCase, Cond.selects RX0 yX0_loadOfCase yX0_loadOfCase, Cond.initialized RX0, Cond.code yX0_loadOfCase cX0_loadOfCase 3 (some .int), Cond.fieldLink RX0 34 "CellDays$Cases" "duties" "LCellDays$Duties;", Cond.methodLink RX0 49 yX2_setOfOn, Cond.instanceMethod yX2_setOfOn, Cond.selects RX2 yX2_setOfOn yX2_setOfOn, Cond.initialized RX2, Cond.code yX2_setOfOn cX2_setOfOn 4 (some .int), Cond.fieldLink RX2 15 "CellDays$Duties" "size" "I", Cond.methodLink RX2 19 yX2_numbered, Cond.instanceMethod yX2_numbered, Cond.selects RX2 yX2_numbered yX2_numbered, Cond.code yX2_numbered cX2_numbered 2 (some (.object "CellDays$Duty"))]
def wsX0_startAgreeing_r2 : List Cond := [Cond.fieldLink RX2 9 "CellDays$Duties" "row" "[LCellDays$Duty;", Cond.methodLink RX0 58 yX2_loadOf, Cond.instanceMethod yX2_loadOf, Cond.selects RX2 yX2_loadOf yX2_loadOf, Cond.code yX2_loadOf cX2_loadOf 7 (some .int), Cond.methodLink RX2 27 yX2_numberedIn, Cond.instanceMethod yX2_numberedIn, Cond.selects RX2 yX2_numberedIn yX2_numberedIn, Cond.code yX2_numberedIn cX2_numberedIn 3 (some (.object "CellDays$Duty")), Cond.methodLink RX2 31 yX3_drainBy, Cond.instanceMethod yX3_drainBy, Cond.selects RX3 yX3_drainBy yX3_drainBy, Cond.initialized RX3, Cond.code yX3_drainBy cX3_drainBy 4 (some .int), Cond.fieldLink RX3 15 "CellDays$Duty" "load" "I", Cond.fieldLink RX3 18 "CellDays$Duty" "times" "I", Cond.fieldLink RX3 9 "CellDays$Duty" "kind" "I", Cond.fieldLink RX3 21 "CellDays$Duty" "peak" "I", Cond.methodLink RX3 34 Lib.Math.max.name, Cond.static Lib.Math.max.name, Cond.initialized "java/lang/Math", Cond.code Lib.Math.max.name Lib.Math.max.code 2 (some .int), Cond.fieldLink RX3 24 "CellDays$Duty" "tries" "I", Cond.methodLink RX3 40 Lib.Math.min.name]
def wsX0_startAgreeing_r3 : List Cond := [Cond.static Lib.Math.min.name, Cond.code Lib.Math.min.name Lib.Math.min.code 2 (some .int), Cond.methodLink RX0 62 yX0_oddOf, Cond.static yX0_oddOf, Cond.code yX0_oddOf cX0_oddOf 1 (some .int), Cond.static yX5_put, Cond.code yX5_put cX5_put 3 none, Cond.methodLink RX0 78 yX1_chargeAtFirst, Cond.instanceMethod yX1_chargeAtFirst, Cond.selects RX1 yX1_chargeAtFirst yX1_chargeAtFirst, Cond.initialized RX1, Cond.code yX1_chargeAtFirst cX1_chargeAtFirst 1 (some .int), Cond.fieldLink RX1 22 "CellDays$Cell" "room" "I"]
def wsX0_startAgreeing : List Cond := .code yX0_startAgreeing cX0_startAgreeing 2 none :: ((wsX0_startAgreeing_r1 ++ (wsX0_startAgreeing_r2 ++ wsX0_startAgreeing_r3)) ++ wsX00 ++ wsX10 ++ wsX20 ++ wsX30)
def wsX0_greatestAtOneLevel_r1 : List Cond := [Cond.fieldLink RX0 23 "CellDays$Cases" "atLevel" "[I", Cond.fieldLink RX0 26 "CellDays$Cases" "agreed" "I", Cond.fieldLink RX0 30 "CellDays$Cases" "cell" "LCellDays$Cell;", Cond.fieldLink RX0 18 "CellDays$Cases" "charges" "[I", Cond.methodLink RX0 118 Lib.Math.max.name, Cond.static Lib.Math.max.name, Cond.initialized "java/lang/Math", Cond.code Lib.Math.max.name Lib.Math.max.code 2 (some .int), Cond.static yX5_at, Cond.initialized RX5, Cond.code yX5_at cX5_at 2 (some .int), Cond.methodLink RX0 75 yX1_levelOf, Cond.instanceMethod yX1_levelOf, Cond.selects RX1 yX1_levelOf yX1_levelOf, Cond.initialized RX1, Cond.code yX1_levelOf cX1_levelOf 3 (some .int), Cond.methodLink RX1 55 Lib.Math.min.name, Cond.static Lib.Math.min.name, Cond.code Lib.Math.min.name Lib.Math.min.code 2 (some .int), Cond.methodLink RX1 47 yX1_chargeAtFirst, Cond.instanceMethod yX1_chargeAtFirst, Cond.selects RX1 yX1_chargeAtFirst yX1_chargeAtFirst, Cond.code yX1_chargeAtFirst cX1_chargeAtFirst 1 (some .int), Cond.fieldLink RX1 22 "CellDays$Cell" "room" "I"]
def wsX0_greatestAtOneLevel_r2 : List Cond := [Cond.static yX5_put, Cond.code yX5_put cX5_put 3 none]
def wsX0_greatestAtOneLevel : List Cond := .code yX0_greatestAtOneLevel cX0_greatestAtOneLevel 5 (some .int) :: ((wsX0_greatestAtOneLevel_r1 ++ wsX0_greatestAtOneLevel_r2) ++ wsX00 ++ wsX10)
def wsX0_passDay_r1 : List Cond := [Cond.fieldLink RX0 30 "CellDays$Cases" "cell" "LCellDays$Cell;", Cond.fieldLink RX0 26 "CellDays$Cases" "agreed" "I", Cond.fieldLink RX0 11 "CellDays$Cases" "agreeing" "[I", Cond.fieldLink RX0 18 "CellDays$Cases" "charges" "[I", Cond.fieldLink RX0 15 "CellDays$Cases" "loads" "[I", Cond.methodLink RX0 124 yX1_shareOn, Cond.instanceMethod yX1_shareOn, Cond.selects RX1 yX1_shareOn yX1_shareOn, Cond.initialized RX1, Cond.code yX1_shareOn cX1_shareOn 3 (some .int), Cond.fieldLink RX1 18 "CellDays$Cell" "places" "I", Cond.fieldLink RX1 9 "CellDays$Cell" "sharesByWarmth" "[I", Cond.fieldLink RX1 15 "CellDays$Cell" "warmths" "[I", Cond.static yX5_at, Cond.initialized RX5, Cond.code yX5_at cX5_at 2 (some .int), Cond.methodLink RX0 66 yX0_leakOf, Cond.instanceMethod yX0_leakOf, Cond.selects RX0 yX0_leakOf yX0_leakOf, Cond.initialized RX0, Cond.code yX0_leakOf cX0_leakOf 2 (some .int), Cond.methodLink RX0 127 yX1_chargeBehind, Cond.instanceMethod yX1_chargeBehind, Cond.selects RX1 yX1_chargeBehind yX1_chargeBehind]
def wsX0_passDay_r2 : List Cond := [Cond.code yX1_chargeBehind cX1_chargeBehind 7 (some .int), Cond.static yX5_put, Cond.code yX5_put cX5_put 3 none]
def wsX0_passDay : List Cond := .code yX0_passDay cX0_passDay 5 none :: ((wsX0_passDay_r1 ++ wsX0_passDay_r2) ++ wsX00 ++ wsX10)
def wsX0_dayThatTellsMost_r1 : List Cond := [Cond.fieldLink RX0 26 "CellDays$Cases" "agreed" "I", Cond.fieldLink RX0 23 "CellDays$Cases" "atLevel" "[I", Cond.methodLink RX0 108 yX0_startAgreeing, Cond.instanceMethod yX0_startAgreeing, Cond.selects RX0 yX0_startAgreeing yX0_startAgreeing, Cond.initialized RX0, Cond.code yX0_startAgreeing cX0_startAgreeing 2 none, Cond.fieldLink RX0 15 "CellDays$Cases" "loads" "[I", Cond.fieldLink RX0 11 "CellDays$Cases" "agreeing" "[I", Cond.fieldLink RX0 18 "CellDays$Cases" "charges" "[I", Cond.fieldLink RX0 30 "CellDays$Cases" "cell" "LCellDays$Cell;", Cond.static yX5_at, Cond.initialized RX5, Cond.code yX5_at cX5_at 2 (some .int), Cond.methodLink RX0 69 yX0_loadOfCase, Cond.instanceMethod yX0_loadOfCase, Cond.selects RX0 yX0_loadOfCase yX0_loadOfCase, Cond.code yX0_loadOfCase cX0_loadOfCase 3 (some .int), Cond.fieldLink RX0 34 "CellDays$Cases" "duties" "LCellDays$Duties;", Cond.methodLink RX0 49 yX2_setOfOn, Cond.instanceMethod yX2_setOfOn, Cond.selects RX2 yX2_setOfOn yX2_setOfOn, Cond.initialized RX2, Cond.code yX2_setOfOn cX2_setOfOn 4 (some .int)]
def wsX0_dayThatTellsMost_r2 : List Cond := [Cond.fieldLink RX2 15 "CellDays$Duties" "size" "I", Cond.methodLink RX2 19 yX2_numbered, Cond.instanceMethod yX2_numbered, Cond.selects RX2 yX2_numbered yX2_numbered, Cond.code yX2_numbered cX2_numbered 2 (some (.object "CellDays$Duty")), Cond.fieldLink RX2 9 "CellDays$Duties" "row" "[LCellDays$Duty;", Cond.methodLink RX0 58 yX2_loadOf, Cond.instanceMethod yX2_loadOf, Cond.selects RX2 yX2_loadOf yX2_loadOf, Cond.code yX2_loadOf cX2_loadOf 7 (some .int), Cond.methodLink RX2 27 yX2_numberedIn, Cond.instanceMethod yX2_numberedIn, Cond.selects RX2 yX2_numberedIn yX2_numberedIn, Cond.code yX2_numberedIn cX2_numberedIn 3 (some (.object "CellDays$Duty")), Cond.methodLink RX2 31 yX3_drainBy, Cond.instanceMethod yX3_drainBy, Cond.selects RX3 yX3_drainBy yX3_drainBy, Cond.initialized RX3, Cond.code yX3_drainBy cX3_drainBy 4 (some .int), Cond.fieldLink RX3 15 "CellDays$Duty" "load" "I", Cond.fieldLink RX3 18 "CellDays$Duty" "times" "I", Cond.fieldLink RX3 9 "CellDays$Duty" "kind" "I", Cond.fieldLink RX3 21 "CellDays$Duty" "peak" "I", Cond.methodLink RX3 34 Lib.Math.max.name]
def wsX0_dayThatTellsMost_r3 : List Cond := [Cond.static Lib.Math.max.name, Cond.initialized "java/lang/Math", Cond.code Lib.Math.max.name Lib.Math.max.code 2 (some .int), Cond.fieldLink RX3 24 "CellDays$Duty" "tries" "I", Cond.methodLink RX3 40 Lib.Math.min.name, Cond.static Lib.Math.min.name, Cond.code Lib.Math.min.name Lib.Math.min.code 2 (some .int), Cond.methodLink RX0 62 yX0_oddOf, Cond.static yX0_oddOf, Cond.code yX0_oddOf cX0_oddOf 1 (some .int), Cond.static yX5_put, Cond.code yX5_put cX5_put 3 none, Cond.methodLink RX0 78 yX1_chargeAtFirst, Cond.instanceMethod yX1_chargeAtFirst, Cond.selects RX1 yX1_chargeAtFirst yX1_chargeAtFirst, Cond.initialized RX1, Cond.code yX1_chargeAtFirst cX1_chargeAtFirst 1 (some .int), Cond.fieldLink RX1 22 "CellDays$Cell" "room" "I", Cond.methodLink RX0 111 yX0_greatestAtOneLevel, Cond.instanceMethod yX0_greatestAtOneLevel, Cond.selects RX0 yX0_greatestAtOneLevel yX0_greatestAtOneLevel, Cond.code yX0_greatestAtOneLevel cX0_greatestAtOneLevel 5 (some .int), Cond.methodLink RX0 118 Lib.Math.max.name, Cond.methodLink RX0 75 yX1_levelOf]
def wsX0_dayThatTellsMost_r4 : List Cond := [Cond.instanceMethod yX1_levelOf, Cond.selects RX1 yX1_levelOf yX1_levelOf, Cond.code yX1_levelOf cX1_levelOf 3 (some .int), Cond.methodLink RX1 55 Lib.Math.min.name, Cond.methodLink RX1 47 yX1_chargeAtFirst, Cond.methodLink RX0 114 yX0_passDay, Cond.instanceMethod yX0_passDay, Cond.selects RX0 yX0_passDay yX0_passDay, Cond.code yX0_passDay cX0_passDay 5 none, Cond.methodLink RX0 124 yX1_shareOn, Cond.instanceMethod yX1_shareOn, Cond.selects RX1 yX1_shareOn yX1_shareOn, Cond.code yX1_shareOn cX1_shareOn 3 (some .int), Cond.fieldLink RX1 18 "CellDays$Cell" "places" "I", Cond.fieldLink RX1 9 "CellDays$Cell" "sharesByWarmth" "[I", Cond.fieldLink RX1 15 "CellDays$Cell" "warmths" "[I", Cond.methodLink RX0 66 yX0_leakOf, Cond.instanceMethod yX0_leakOf, Cond.selects RX0 yX0_leakOf yX0_leakOf, Cond.code yX0_leakOf cX0_leakOf 2 (some .int), Cond.methodLink RX0 127 yX1_chargeBehind, Cond.instanceMethod yX1_chargeBehind, Cond.selects RX1 yX1_chargeBehind yX1_chargeBehind, Cond.code yX1_chargeBehind cX1_chargeBehind 7 (some .int)]
def wsX0_dayThatTellsMost : List Cond := .code yX0_dayThatTellsMost cX0_dayThatTellsMost 5 (some .int) :: ((wsX0_dayThatTellsMost_r1 ++ (wsX0_dayThatTellsMost_r2 ++ (wsX0_dayThatTellsMost_r3 ++ wsX0_dayThatTellsMost_r4))) ++ wsX00 ++ wsX10 ++ wsX20 ++ wsX30)
def wsX1_init : List Cond := .code yX1_init cX1_init 1 none :: ([.methodLink RX1 3 objectInit, .instanceMethod objectInit, .code objectInit ⟨#[0xb1]⟩ 1 none, .arrayClass .int, .fieldLink RX1 9 "CellDays$Cell" "sharesByWarmth" "[I", .fieldLink RX1 15 "CellDays$Cell" "warmths" "[I", .fieldLink RX1 18 "CellDays$Cell" "places" "I", .fieldLink RX1 22 "CellDays$Cell" "room" "I", .fieldLink RX1 25 "CellDays$Cell" "leak" "I", .fieldLink RX1 28 "CellDays$Cell" "bar" "I"] ++ wsX10)
def wsX1_changeRoom : List Cond := .code yX1_changeRoom cX1_changeRoom 3 (some .int) :: ([.fieldLink RX1 22 "CellDays$Cell" "room" "I"] ++ wsX10)
def wsX1_changeLeak : List Cond := .code yX1_changeLeak cX1_changeLeak 3 (some .int) :: ([.fieldLink RX1 25 "CellDays$Cell" "leak" "I"] ++ wsX10)
def wsX1_changeBar : List Cond := .code yX1_changeBar cX1_changeBar 3 (some .int) :: ([.fieldLink RX1 28 "CellDays$Cell" "bar" "I"] ++ wsX10)
def wsX1_changeShares : List Cond := .code yX1_changeShares cX1_changeShares 4 none :: ([.fieldLink RX1 9 "CellDays$Cell" "sharesByWarmth" "[I", .static yX5_put, .initialized RX5, .code yX5_put cX5_put 3 none] ++ wsX10)
def wsX1_changeSeason : List Cond := .code yX1_changeSeason cX1_changeSeason 5 none :: ([.fieldLink RX1 15 "CellDays$Cell" "warmths" "[I", .fieldLink RX1 18 "CellDays$Cell" "places" "I", .static yX5_put, .initialized RX5, .code yX5_put cX5_put 3 none] ++ wsX10)
def wsX1_daysLasted : List Cond := .code yX1_daysLasted cX1_daysLasted 4 (some .int) :: ([.fieldLink RX1 25 "CellDays$Cell" "leak" "I", .methodLink RX1 47 yX1_chargeAtFirst, .instanceMethod yX1_chargeAtFirst, .selects RX1 yX1_chargeAtFirst yX1_chargeAtFirst, .initialized RX1, .code yX1_chargeAtFirst cX1_chargeAtFirst 1 (some .int), .fieldLink RX1 22 "CellDays$Cell" "room" "I", .methodLink RX1 39 yX1_shareOn, .instanceMethod yX1_shareOn, .selects RX1 yX1_shareOn yX1_shareOn, .code yX1_shareOn cX1_shareOn 3 (some .int), .fieldLink RX1 18 "CellDays$Cell" "places" "I", .fieldLink RX1 9 "CellDays$Cell" "sharesByWarmth" "[I", .fieldLink RX1 15 "CellDays$Cell" "warmths" "[I", .static yX5_at, .initialized RX5, .code yX5_at cX5_at 2 (some .int), .methodLink RX1 43 yX1_chargeBehind, .instanceMethod yX1_chargeBehind, .selects RX1 yX1_chargeBehind yX1_chargeBehind, .code yX1_chargeBehind cX1_chargeBehind 7 (some .int)] ++ wsX10)
def wsX2_init : List Cond := .code yX2_init cX2_init 1 none :: ([.methodLink RX2 1 objectInit, .instanceMethod objectInit, .code objectInit ⟨#[0xb1]⟩ 1 none, .classLink RX2 7 RX3, .fieldLink RX2 9 "CellDays$Duties" "row" "[LCellDays$Duty;", .fieldLink RX2 15 "CellDays$Duties" "size" "I"] ++ wsX20)
def wsX2_isFull : List Cond := .code yX2_isFull cX2_isFull 1 (some .boolean) :: ([.fieldLink RX2 15 "CellDays$Duties" "size" "I", .fieldLink RX2 9 "CellDays$Duties" "row" "[LCellDays$Duty;"] ++ wsX20)
def wsX2_add : List Cond := .code yX2_add cX2_add 3 (some .int) :: ([.fieldLink RX2 15 "CellDays$Duties" "size" "I", .fieldLink RX2 9 "CellDays$Duties" "row" "[LCellDays$Duty;"] ++ wsX20)
def wsX2_removeLatest : List Cond := .code yX2_removeLatest cX2_removeLatest 2 (some .int) :: ([.fieldLink RX2 15 "CellDays$Duties" "size" "I", .fieldLink RX2 9 "CellDays$Duties" "row" "[LCellDays$Duty;"] ++ wsX20)
def wsX2_worthOf : List Cond := .code yX2_worthOf cX2_worthOf 5 (some .int) :: ([.fieldLink RX2 15 "CellDays$Duties" "size" "I", .methodLink RX2 27 yX2_numberedIn, .instanceMethod yX2_numberedIn, .selects RX2 yX2_numberedIn yX2_numberedIn, .initialized RX2, .code yX2_numberedIn cX2_numberedIn 3 (some (.object "CellDays$Duty")), .methodLink RX2 19 yX2_numbered, .instanceMethod yX2_numbered, .selects RX2 yX2_numbered yX2_numbered, .code yX2_numbered cX2_numbered 2 (some (.object "CellDays$Duty")), .fieldLink RX2 9 "CellDays$Duties" "row" "[LCellDays$Duty;"] ++ wsX20 ++ wsX30)
def wsX3_init : List Cond := .code yX3_init cX3_init 7 none :: ([.methodLink RX3 3 objectInit, .instanceMethod objectInit, .code objectInit ⟨#[0xb1]⟩ 1 none, .fieldLink RX3 9 "CellDays$Duty" "kind" "I", .fieldLink RX3 15 "CellDays$Duty" "load" "I", .fieldLink RX3 18 "CellDays$Duty" "times" "I", .fieldLink RX3 21 "CellDays$Duty" "peak" "I", .fieldLink RX3 24 "CellDays$Duty" "tries" "I", .fieldLink RX3 27 "CellDays$Duty" "worth" "I", .fieldLink RX3 30 "CellDays$Duty" "isOn" "Z"] ++ wsX30)
def wsX3_traceOfOneAsk : List Cond := .code yX3_traceOfOneAsk cX3_traceOfOneAsk 1 (some .int) :: ([.fieldLink RX3 9 "CellDays$Duty" "kind" "I"] ++ wsX30)
def wsX4_init : List Cond := .code yX4_init cX4_init 1 none :: ([.methodLink RX4 1 objectInit, .instanceMethod objectInit, .code objectInit ⟨#[0xb1]⟩ 1 none, .arrayClass .int, .fieldLink RX4 9 "CellDays$Signs" "days" "[I", .fieldLink RX4 13 "CellDays$Signs" "levels" "[I", .fieldLink RX4 16 "CellDays$Signs" "order" "[I", .fieldLink RX4 19 "CellDays$Signs" "size" "I"] ++ wsX40)
def wsX4_isFull : List Cond := .code yX4_isFull cX4_isFull 1 (some .boolean) :: ([.fieldLink RX4 19 "CellDays$Signs" "size" "I"] ++ wsX40)
def wsX4_arrange : List Cond := .code yX4_arrange cX4_arrange 3 none :: ([.fieldLink RX4 19 "CellDays$Signs" "size" "I", .fieldLink RX4 9 "CellDays$Signs" "days" "[I", .fieldLink RX4 16 "CellDays$Signs" "order" "[I", .methodLink RX4 32 yX4_dayInOrder, .instanceMethod yX4_dayInOrder, .selects RX4 yX4_dayInOrder yX4_dayInOrder, .initialized RX4, .code yX4_dayInOrder cX4_dayInOrder 2 (some .int), .static yX5_at, .initialized RX5, .code yX5_at cX5_at 2 (some .int), .static yX5_put, .code yX5_put cX5_put 3 none] ++ wsX40)
def wsX4_add : List Cond := .code yX4_add cX4_add 3 (some .int) :: ([.fieldLink RX4 9 "CellDays$Signs" "days" "[I", .fieldLink RX4 19 "CellDays$Signs" "size" "I", .fieldLink RX4 13 "CellDays$Signs" "levels" "[I", .static yX5_put, .initialized RX5, .code yX5_put cX5_put 3 none, .methodLink RX4 29 yX4_arrange, .instanceMethod yX4_arrange, .selects RX4 yX4_arrange yX4_arrange, .initialized RX4, .code yX4_arrange cX4_arrange 3 none, .fieldLink RX4 16 "CellDays$Signs" "order" "[I", .methodLink RX4 32 yX4_dayInOrder, .instanceMethod yX4_dayInOrder, .selects RX4 yX4_dayInOrder yX4_dayInOrder, .code yX4_dayInOrder cX4_dayInOrder 2 (some .int), .static yX5_at, .code yX5_at cX5_at 2 (some .int)] ++ wsX40)
def wsX4_removeLatest : List Cond := .code yX4_removeLatest cX4_removeLatest 1 (some .int) :: ([.fieldLink RX4 19 "CellDays$Signs" "size" "I", .methodLink RX4 29 yX4_arrange, .instanceMethod yX4_arrange, .selects RX4 yX4_arrange yX4_arrange, .initialized RX4, .code yX4_arrange cX4_arrange 3 none, .fieldLink RX4 9 "CellDays$Signs" "days" "[I", .fieldLink RX4 16 "CellDays$Signs" "order" "[I", .methodLink RX4 32 yX4_dayInOrder, .instanceMethod yX4_dayInOrder, .selects RX4 yX4_dayInOrder yX4_dayInOrder, .code yX4_dayInOrder cX4_dayInOrder 2 (some .int), .static yX5_at, .initialized RX5, .code yX5_at cX5_at 2 (some .int), .static yX5_put, .code yX5_put cX5_put 3 none] ++ wsX40)
def wsX5_init_r1 : List Cond := [Cond.methodLink RX5 1 objectInit, Cond.instanceMethod objectInit, Cond.code objectInit ⟨#[0xb1]⟩ 1 none, Cond.classLink RX5 7 RX1, Cond.instantiable RX1 6, Cond.initialized RX1, Cond.fieldLink RX5 10 "CellDays" "cell" "LCellDays$Cell;", Cond.classLink RX5 16 RX2, Cond.instantiable RX2 2, Cond.initialized RX2, Cond.fieldLink RX5 19 "CellDays" "duties" "LCellDays$Duties;", Cond.classLink RX5 23 RX4, Cond.instantiable RX4 4, Cond.initialized RX4, Cond.fieldLink RX5 26 "CellDays" "signs" "LCellDays$Signs;", Cond.classLink RX5 30 RX0, Cond.instantiable RX0 8, Cond.initialized RX0, Cond.fieldLink RX5 35 "CellDays" "cases" "LCellDays$Cases;", Cond.fieldLink RX5 39 "CellDays" "asked" "J", Cond.instanceMethod yX1_init, Cond.code yX1_init cX1_init 1 none, Cond.methodLink RX1 3 objectInit, Cond.arrayClass .int]
def wsX5_init_r2 : List Cond := [Cond.fieldLink RX1 9 "CellDays$Cell" "sharesByWarmth" "[I", Cond.fieldLink RX1 15 "CellDays$Cell" "warmths" "[I", Cond.fieldLink RX1 18 "CellDays$Cell" "places" "I", Cond.fieldLink RX1 22 "CellDays$Cell" "room" "I", Cond.fieldLink RX1 25 "CellDays$Cell" "leak" "I", Cond.fieldLink RX1 28 "CellDays$Cell" "bar" "I", Cond.instanceMethod yX2_init, Cond.code yX2_init cX2_init 1 none, Cond.methodLink RX2 1 objectInit, Cond.classLink RX2 7 RX3, Cond.fieldLink RX2 9 "CellDays$Duties" "row" "[LCellDays$Duty;", Cond.fieldLink RX2 15 "CellDays$Duties" "size" "I", Cond.instanceMethod yX4_init, Cond.code yX4_init cX4_init 1 none, Cond.methodLink RX4 1 objectInit, Cond.fieldLink RX4 9 "CellDays$Signs" "days" "[I", Cond.fieldLink RX4 13 "CellDays$Signs" "levels" "[I", Cond.fieldLink RX4 16 "CellDays$Signs" "order" "[I", Cond.fieldLink RX4 19 "CellDays$Signs" "size" "I", Cond.methodLink RX5 32 yX0_init, Cond.instanceMethod yX0_init, Cond.code yX0_init cX0_init 4 none, Cond.methodLink RX0 5 objectInit, Cond.fieldLink RX0 11 "CellDays$Cases" "agreeing" "[I"]
def wsX5_init_r3 : List Cond := [Cond.fieldLink RX0 15 "CellDays$Cases" "loads" "[I", Cond.fieldLink RX0 18 "CellDays$Cases" "charges" "[I", Cond.fieldLink RX0 23 "CellDays$Cases" "atLevel" "[I", Cond.fieldLink RX0 26 "CellDays$Cases" "agreed" "I", Cond.fieldLink RX0 30 "CellDays$Cases" "cell" "LCellDays$Cell;", Cond.fieldLink RX0 34 "CellDays$Cases" "duties" "LCellDays$Duties;", Cond.fieldLink RX0 38 "CellDays$Cases" "signs" "LCellDays$Signs;"]
def wsX5_init : List Cond := .code yX5_init cX5_init 1 none :: ((wsX5_init_r1 ++ (wsX5_init_r2 ++ wsX5_init_r3)) ++ wsX10 ++ wsX50 ++ wsX20 ++ wsX40 ++ wsX00)
def wsX5_set : List Cond := .code yX5_set cX5_set 3 (some .int) :: ([.fieldLink RX5 10 "CellDays" "cell" "LCellDays$Cell;", .methodLink RX5 43 yX5_within, .static yX5_within, .initialized RX5, .code yX5_within cX5_within 3 (some .boolean), .methodLink RX5 47 yX1_changeRoom, .instanceMethod yX1_changeRoom, .selects RX1 yX1_changeRoom yX1_changeRoom, .initialized RX1, .code yX1_changeRoom cX1_changeRoom 3 (some .int), .fieldLink RX1 22 "CellDays$Cell" "room" "I", .methodLink RX5 51 yX1_changeLeak, .instanceMethod yX1_changeLeak, .selects RX1 yX1_changeLeak yX1_changeLeak, .code yX1_changeLeak cX1_changeLeak 3 (some .int), .fieldLink RX1 25 "CellDays$Cell" "leak" "I", .methodLink RX5 54 yX1_changeBar, .instanceMethod yX1_changeBar, .selects RX1 yX1_changeBar yX1_changeBar, .code yX1_changeBar cX1_changeBar 3 (some .int), .fieldLink RX1 28 "CellDays$Cell" "bar" "I"] ++ wsX50 ++ wsX10)
def wsX5_shares : List Cond := .code yX5_shares cX5_shares 4 (some .int) :: ([.fieldLink RX5 10 "CellDays" "cell" "LCellDays$Cell;", .methodLink RX5 43 yX5_within, .static yX5_within, .initialized RX5, .code yX5_within cX5_within 3 (some .boolean), .methodLink RX5 57 yX1_changeShares, .instanceMethod yX1_changeShares, .selects RX1 yX1_changeShares yX1_changeShares, .initialized RX1, .code yX1_changeShares cX1_changeShares 4 none, .fieldLink RX1 9 "CellDays$Cell" "sharesByWarmth" "[I", .static yX5_put, .code yX5_put cX5_put 3 none] ++ wsX50 ++ wsX10)
def wsX5_powerOfThree : List Cond := .code yX5_powerOfThree cX5_powerOfThree 3 (some .int) :: ([])
def wsX5_season : List Cond := .code yX5_season cX5_season 3 (some .int) :: ([.fieldLink RX5 10 "CellDays" "cell" "LCellDays$Cell;", .methodLink RX5 43 yX5_within, .static yX5_within, .initialized RX5, .code yX5_within cX5_within 3 (some .boolean), .methodLink RX5 61 yX5_powerOfThree, .static yX5_powerOfThree, .code yX5_powerOfThree cX5_powerOfThree 3 (some .int), .methodLink RX5 64 yX1_changeSeason, .instanceMethod yX1_changeSeason, .selects RX1 yX1_changeSeason yX1_changeSeason, .initialized RX1, .code yX1_changeSeason cX1_changeSeason 5 none, .fieldLink RX1 15 "CellDays$Cell" "warmths" "[I", .fieldLink RX1 18 "CellDays$Cell" "places" "I", .static yX5_put, .code yX5_put cX5_put 3 none] ++ wsX50 ++ wsX10)
def wsX5_isDay : List Cond := .code yX5_isDay cX5_isDay 1 (some .boolean) :: ([.methodLink RX5 43 yX5_within, .static yX5_within, .initialized RX5, .code yX5_within cX5_within 3 (some .boolean)])
def wsX5_share : List Cond := .code yX5_share cX5_share 2 (some .int) :: ([.fieldLink RX5 10 "CellDays" "cell" "LCellDays$Cell;", .methodLink RX5 68 yX5_isDay, .static yX5_isDay, .initialized RX5, .code yX5_isDay cX5_isDay 1 (some .boolean), .methodLink RX5 43 yX5_within, .static yX5_within, .code yX5_within cX5_within 3 (some .boolean), .methodLink RX5 72 yX1_shareOn, .instanceMethod yX1_shareOn, .selects RX1 yX1_shareOn yX1_shareOn, .initialized RX1, .code yX1_shareOn cX1_shareOn 3 (some .int), .fieldLink RX1 18 "CellDays$Cell" "places" "I", .fieldLink RX1 9 "CellDays$Cell" "sharesByWarmth" "[I", .fieldLink RX1 15 "CellDays$Cell" "warmths" "[I", .static yX5_at, .code yX5_at cX5_at 2 (some .int)] ++ wsX50 ++ wsX10)
def wsX5_isTries : List Cond := .code yX5_isTries cX5_isTries 1 (some .boolean) :: ([.methodLink RX5 43 yX5_within, .static yX5_within, .initialized RX5, .code yX5_within cX5_within 3 (some .boolean)])
def wsX5_duty_r1 : List Cond := [Cond.fieldLink RX5 19 "CellDays" "duties" "LCellDays$Duties;", Cond.classLink RX5 82 RX3, Cond.instantiable RX3 7, Cond.initialized RX3, Cond.methodLink RX5 43 yX5_within, Cond.static yX5_within, Cond.initialized RX5, Cond.code yX5_within cX5_within 3 (some .boolean), Cond.methodLink RX5 75 yX5_isTries, Cond.static yX5_isTries, Cond.code yX5_isTries cX5_isTries 1 (some .boolean), Cond.methodLink RX5 78 yX2_isFull, Cond.instanceMethod yX2_isFull, Cond.selects RX2 yX2_isFull yX2_isFull, Cond.initialized RX2, Cond.code yX2_isFull cX2_isFull 1 (some .boolean), Cond.fieldLink RX2 15 "CellDays$Duties" "size" "I", Cond.fieldLink RX2 9 "CellDays$Duties" "row" "[LCellDays$Duty;", Cond.methodLink RX5 84 yX3_init, Cond.instanceMethod yX3_init, Cond.code yX3_init cX3_init 7 none, Cond.methodLink RX3 3 objectInit, Cond.instanceMethod objectInit, Cond.code objectInit ⟨#[0xb1]⟩ 1 none]
def wsX5_duty_r2 : List Cond := [Cond.fieldLink RX3 9 "CellDays$Duty" "kind" "I", Cond.fieldLink RX3 15 "CellDays$Duty" "load" "I", Cond.fieldLink RX3 18 "CellDays$Duty" "times" "I", Cond.fieldLink RX3 21 "CellDays$Duty" "peak" "I", Cond.fieldLink RX3 24 "CellDays$Duty" "tries" "I", Cond.fieldLink RX3 27 "CellDays$Duty" "worth" "I", Cond.fieldLink RX3 30 "CellDays$Duty" "isOn" "Z", Cond.methodLink RX5 87 yX2_add, Cond.instanceMethod yX2_add, Cond.selects RX2 yX2_add yX2_add, Cond.code yX2_add cX2_add 3 (some .int)]
def wsX5_duty : List Cond := .code yX5_duty cX5_duty 10 (some .int) :: ((wsX5_duty_r1 ++ wsX5_duty_r2) ++ wsX50 ++ wsX30 ++ wsX20)
def wsX5_on : List Cond := .code yX5_on cX5_on 5 (some .int) :: ([.fieldLink RX5 19 "CellDays" "duties" "LCellDays$Duties;", .methodLink RX5 91 yX2_numbered, .instanceMethod yX2_numbered, .selects RX2 yX2_numbered yX2_numbered, .initialized RX2, .code yX2_numbered cX2_numbered 2 (some (.object "CellDays$Duty")), .fieldLink RX2 15 "CellDays$Duties" "size" "I", .fieldLink RX2 9 "CellDays$Duties" "row" "[LCellDays$Duty;"] ++ wsX50 ++ wsX30 ++ wsX20)
def wsX5_drop : List Cond := .code yX5_drop cX5_drop 1 (some .int) :: ([.fieldLink RX5 19 "CellDays" "duties" "LCellDays$Duties;", .methodLink RX5 103 yX2_removeLatest, .instanceMethod yX2_removeLatest, .selects RX2 yX2_removeLatest yX2_removeLatest, .initialized RX2, .code yX2_removeLatest cX2_removeLatest 2 (some .int), .fieldLink RX2 15 "CellDays$Duties" "size" "I", .fieldLink RX2 9 "CellDays$Duties" "row" "[LCellDays$Duty;"] ++ wsX50 ++ wsX20)
def wsX5_drain_r1 : List Cond := [Cond.fieldLink RX5 19 "CellDays" "duties" "LCellDays$Duties;", Cond.fieldLink RX5 39 "CellDays" "asked" "J", Cond.fieldLink RX5 10 "CellDays" "cell" "LCellDays$Cell;", Cond.methodLink RX5 91 yX2_numbered, Cond.instanceMethod yX2_numbered, Cond.selects RX2 yX2_numbered yX2_numbered, Cond.initialized RX2, Cond.code yX2_numbered cX2_numbered 2 (some (.object "CellDays$Duty")), Cond.fieldLink RX2 15 "CellDays$Duties" "size" "I", Cond.fieldLink RX2 9 "CellDays$Duties" "row" "[LCellDays$Duty;", Cond.methodLink RX5 75 yX5_isTries, Cond.static yX5_isTries, Cond.initialized RX5, Cond.code yX5_isTries cX5_isTries 1 (some .boolean), Cond.methodLink RX5 43 yX5_within, Cond.static yX5_within, Cond.code yX5_within cX5_within 3 (some .boolean), Cond.methodLink RX5 110 yX3_traceOfOneAsk, Cond.instanceMethod yX3_traceOfOneAsk, Cond.selects RX3 yX3_traceOfOneAsk yX3_traceOfOneAsk, Cond.initialized RX3, Cond.code yX3_traceOfOneAsk cX3_traceOfOneAsk 1 (some .int), Cond.fieldLink RX3 9 "CellDays$Duty" "kind" "I", Cond.methodLink RX5 116 yX3_drainBy]
def wsX5_drain_r2 : List Cond := [Cond.instanceMethod yX3_drainBy, Cond.selects RX3 yX3_drainBy yX3_drainBy, Cond.code yX3_drainBy cX3_drainBy 4 (some .int), Cond.fieldLink RX3 15 "CellDays$Duty" "load" "I", Cond.fieldLink RX3 18 "CellDays$Duty" "times" "I", Cond.fieldLink RX3 21 "CellDays$Duty" "peak" "I", Cond.methodLink RX3 34 Lib.Math.max.name, Cond.static Lib.Math.max.name, Cond.initialized "java/lang/Math", Cond.code Lib.Math.max.name Lib.Math.max.code 2 (some .int), Cond.fieldLink RX3 24 "CellDays$Duty" "tries" "I", Cond.methodLink RX3 40 Lib.Math.min.name, Cond.static Lib.Math.min.name, Cond.code Lib.Math.min.name Lib.Math.min.code 2 (some .int)]
def wsX5_drain : List Cond := .code yX5_drain cX5_drain 4 (some .int) :: ((wsX5_drain_r1 ++ wsX5_drain_r2) ++ wsX50 ++ wsX30 ++ wsX10 ++ wsX20)
def wsX5_life_r1 : List Cond := [Cond.fieldLink RX5 10 "CellDays" "cell" "LCellDays$Cell;", Cond.fieldLink RX5 19 "CellDays" "duties" "LCellDays$Duties;", Cond.methodLink RX5 75 yX5_isTries, Cond.static yX5_isTries, Cond.initialized RX5, Cond.code yX5_isTries cX5_isTries 1 (some .boolean), Cond.methodLink RX5 43 yX5_within, Cond.static yX5_within, Cond.code yX5_within cX5_within 3 (some .boolean), Cond.methodLink RX5 120 yX2_setOfOn, Cond.instanceMethod yX2_setOfOn, Cond.selects RX2 yX2_setOfOn yX2_setOfOn, Cond.initialized RX2, Cond.code yX2_setOfOn cX2_setOfOn 4 (some .int), Cond.fieldLink RX2 15 "CellDays$Duties" "size" "I", Cond.methodLink RX2 19 yX2_numbered, Cond.instanceMethod yX2_numbered, Cond.selects RX2 yX2_numbered yX2_numbered, Cond.code yX2_numbered cX2_numbered 2 (some (.object "CellDays$Duty")), Cond.fieldLink RX2 9 "CellDays$Duties" "row" "[LCellDays$Duty;", Cond.methodLink RX5 123 yX2_loadOf, Cond.instanceMethod yX2_loadOf, Cond.selects RX2 yX2_loadOf yX2_loadOf, Cond.code yX2_loadOf cX2_loadOf 7 (some .int)]
def wsX5_life_r2 : List Cond := [Cond.methodLink RX2 27 yX2_numberedIn, Cond.instanceMethod yX2_numberedIn, Cond.selects RX2 yX2_numberedIn yX2_numberedIn, Cond.code yX2_numberedIn cX2_numberedIn 3 (some (.object "CellDays$Duty")), Cond.methodLink RX2 31 yX3_drainBy, Cond.instanceMethod yX3_drainBy, Cond.selects RX3 yX3_drainBy yX3_drainBy, Cond.initialized RX3, Cond.code yX3_drainBy cX3_drainBy 4 (some .int), Cond.fieldLink RX3 15 "CellDays$Duty" "load" "I", Cond.fieldLink RX3 18 "CellDays$Duty" "times" "I", Cond.fieldLink RX3 9 "CellDays$Duty" "kind" "I", Cond.fieldLink RX3 21 "CellDays$Duty" "peak" "I", Cond.methodLink RX3 34 Lib.Math.max.name, Cond.static Lib.Math.max.name, Cond.initialized "java/lang/Math", Cond.code Lib.Math.max.name Lib.Math.max.code 2 (some .int), Cond.fieldLink RX3 24 "CellDays$Duty" "tries" "I", Cond.methodLink RX3 40 Lib.Math.min.name, Cond.static Lib.Math.min.name, Cond.code Lib.Math.min.name Lib.Math.min.code 2 (some .int), Cond.methodLink RX5 127 yX1_daysLasted, Cond.instanceMethod yX1_daysLasted, Cond.selects RX1 yX1_daysLasted yX1_daysLasted]
def wsX5_life_r3 : List Cond := [Cond.initialized RX1, Cond.code yX1_daysLasted cX1_daysLasted 4 (some .int), Cond.fieldLink RX1 25 "CellDays$Cell" "leak" "I", Cond.methodLink RX1 47 yX1_chargeAtFirst, Cond.instanceMethod yX1_chargeAtFirst, Cond.selects RX1 yX1_chargeAtFirst yX1_chargeAtFirst, Cond.code yX1_chargeAtFirst cX1_chargeAtFirst 1 (some .int), Cond.fieldLink RX1 22 "CellDays$Cell" "room" "I", Cond.methodLink RX1 39 yX1_shareOn, Cond.instanceMethod yX1_shareOn, Cond.selects RX1 yX1_shareOn yX1_shareOn, Cond.code yX1_shareOn cX1_shareOn 3 (some .int), Cond.fieldLink RX1 18 "CellDays$Cell" "places" "I", Cond.fieldLink RX1 9 "CellDays$Cell" "sharesByWarmth" "[I", Cond.fieldLink RX1 15 "CellDays$Cell" "warmths" "[I", Cond.static yX5_at, Cond.code yX5_at cX5_at 2 (some .int), Cond.methodLink RX1 43 yX1_chargeBehind, Cond.instanceMethod yX1_chargeBehind, Cond.selects RX1 yX1_chargeBehind yX1_chargeBehind, Cond.code yX1_chargeBehind cX1_chargeBehind 7 (some .int)]
def wsX5_life : List Cond := .code yX5_life cX5_life 2 (some .int) :: ((wsX5_life_r1 ++ (wsX5_life_r2 ++ wsX5_life_r3)) ++ wsX50 ++ wsX10 ++ wsX20 ++ wsX30)
def wsX5_charge_r1 : List Cond := [Cond.fieldLink RX5 19 "CellDays" "duties" "LCellDays$Duties;", Cond.fieldLink RX5 10 "CellDays" "cell" "LCellDays$Cell;", Cond.methodLink RX5 136 Lib.Math.max.name, Cond.static Lib.Math.max.name, Cond.initialized "java/lang/Math", Cond.code Lib.Math.max.name Lib.Math.max.code 2 (some .int), Cond.methodLink RX5 68 yX5_isDay, Cond.static yX5_isDay, Cond.initialized RX5, Cond.code yX5_isDay cX5_isDay 1 (some .boolean), Cond.methodLink RX5 43 yX5_within, Cond.static yX5_within, Cond.code yX5_within cX5_within 3 (some .boolean), Cond.methodLink RX5 75 yX5_isTries, Cond.static yX5_isTries, Cond.code yX5_isTries cX5_isTries 1 (some .boolean), Cond.methodLink RX5 120 yX2_setOfOn, Cond.instanceMethod yX2_setOfOn, Cond.selects RX2 yX2_setOfOn yX2_setOfOn, Cond.initialized RX2, Cond.code yX2_setOfOn cX2_setOfOn 4 (some .int), Cond.fieldLink RX2 15 "CellDays$Duties" "size" "I", Cond.methodLink RX2 19 yX2_numbered, Cond.instanceMethod yX2_numbered]
def wsX5_charge_r2 : List Cond := [Cond.selects RX2 yX2_numbered yX2_numbered, Cond.code yX2_numbered cX2_numbered 2 (some (.object "CellDays$Duty")), Cond.fieldLink RX2 9 "CellDays$Duties" "row" "[LCellDays$Duty;", Cond.methodLink RX5 123 yX2_loadOf, Cond.instanceMethod yX2_loadOf, Cond.selects RX2 yX2_loadOf yX2_loadOf, Cond.code yX2_loadOf cX2_loadOf 7 (some .int), Cond.methodLink RX2 27 yX2_numberedIn, Cond.instanceMethod yX2_numberedIn, Cond.selects RX2 yX2_numberedIn yX2_numberedIn, Cond.code yX2_numberedIn cX2_numberedIn 3 (some (.object "CellDays$Duty")), Cond.methodLink RX2 31 yX3_drainBy, Cond.instanceMethod yX3_drainBy, Cond.selects RX3 yX3_drainBy yX3_drainBy, Cond.initialized RX3, Cond.code yX3_drainBy cX3_drainBy 4 (some .int), Cond.fieldLink RX3 15 "CellDays$Duty" "load" "I", Cond.fieldLink RX3 18 "CellDays$Duty" "times" "I", Cond.fieldLink RX3 9 "CellDays$Duty" "kind" "I", Cond.fieldLink RX3 21 "CellDays$Duty" "peak" "I", Cond.methodLink RX3 34 Lib.Math.max.name, Cond.fieldLink RX3 24 "CellDays$Duty" "tries" "I", Cond.methodLink RX3 40 Lib.Math.min.name, Cond.static Lib.Math.min.name]
def wsX5_charge_r3 : List Cond := [Cond.code Lib.Math.min.name Lib.Math.min.code 2 (some .int), Cond.methodLink RX5 133 yX1_chargeAhead, Cond.instanceMethod yX1_chargeAhead, Cond.selects RX1 yX1_chargeAhead yX1_chargeAhead, Cond.initialized RX1, Cond.code yX1_chargeAhead cX1_chargeAhead 4 (some .int), Cond.methodLink RX1 47 yX1_chargeAtFirst, Cond.instanceMethod yX1_chargeAtFirst, Cond.selects RX1 yX1_chargeAtFirst yX1_chargeAtFirst, Cond.code yX1_chargeAtFirst cX1_chargeAtFirst 1 (some .int), Cond.fieldLink RX1 22 "CellDays$Cell" "room" "I", Cond.methodLink RX1 51 yX1_chargeFrom, Cond.instanceMethod yX1_chargeFrom, Cond.selects RX1 yX1_chargeFrom yX1_chargeFrom, Cond.code yX1_chargeFrom cX1_chargeFrom 8 (some .int), Cond.methodLink RX1 39 yX1_shareOn, Cond.instanceMethod yX1_shareOn, Cond.selects RX1 yX1_shareOn yX1_shareOn, Cond.code yX1_shareOn cX1_shareOn 3 (some .int), Cond.fieldLink RX1 18 "CellDays$Cell" "places" "I", Cond.fieldLink RX1 9 "CellDays$Cell" "sharesByWarmth" "[I", Cond.fieldLink RX1 15 "CellDays$Cell" "warmths" "[I", Cond.static yX5_at, Cond.code yX5_at cX5_at 2 (some .int)]
def wsX5_charge_r4 : List Cond := [Cond.methodLink RX1 43 yX1_chargeBehind, Cond.instanceMethod yX1_chargeBehind, Cond.selects RX1 yX1_chargeBehind yX1_chargeBehind, Cond.code yX1_chargeBehind cX1_chargeBehind 7 (some .int)]
def wsX5_charge : List Cond := .code yX5_charge cX5_charge 4 (some .int) :: ((wsX5_charge_r1 ++ (wsX5_charge_r2 ++ (wsX5_charge_r3 ++ wsX5_charge_r4))) ++ wsX50 ++ wsX10 ++ wsX20 ++ wsX30)
def wsX5_sureBy_r1 : List Cond := [Cond.fieldLink RX5 10 "CellDays" "cell" "LCellDays$Cell;", Cond.fieldLink RX5 19 "CellDays" "duties" "LCellDays$Duties;", Cond.methodLink RX5 123 yX2_loadOf, Cond.instanceMethod yX2_loadOf, Cond.selects RX2 yX2_loadOf yX2_loadOf, Cond.initialized RX2, Cond.code yX2_loadOf cX2_loadOf 7 (some .int), Cond.fieldLink RX2 15 "CellDays$Duties" "size" "I", Cond.methodLink RX2 27 yX2_numberedIn, Cond.instanceMethod yX2_numberedIn, Cond.selects RX2 yX2_numberedIn yX2_numberedIn, Cond.code yX2_numberedIn cX2_numberedIn 3 (some (.object "CellDays$Duty")), Cond.methodLink RX2 19 yX2_numbered, Cond.instanceMethod yX2_numbered, Cond.selects RX2 yX2_numbered yX2_numbered, Cond.code yX2_numbered cX2_numbered 2 (some (.object "CellDays$Duty")), Cond.fieldLink RX2 9 "CellDays$Duties" "row" "[LCellDays$Duty;", Cond.methodLink RX2 31 yX3_drainBy, Cond.instanceMethod yX3_drainBy, Cond.selects RX3 yX3_drainBy yX3_drainBy, Cond.initialized RX3, Cond.code yX3_drainBy cX3_drainBy 4 (some .int), Cond.fieldLink RX3 15 "CellDays$Duty" "load" "I", Cond.fieldLink RX3 18 "CellDays$Duty" "times" "I"]
def wsX5_sureBy_r2 : List Cond := [Cond.fieldLink RX3 9 "CellDays$Duty" "kind" "I", Cond.fieldLink RX3 21 "CellDays$Duty" "peak" "I", Cond.methodLink RX3 34 Lib.Math.max.name, Cond.static Lib.Math.max.name, Cond.initialized "java/lang/Math", Cond.code Lib.Math.max.name Lib.Math.max.code 2 (some .int), Cond.fieldLink RX3 24 "CellDays$Duty" "tries" "I", Cond.methodLink RX3 40 Lib.Math.min.name, Cond.static Lib.Math.min.name, Cond.code Lib.Math.min.name Lib.Math.min.code 2 (some .int), Cond.methodLink RX5 127 yX1_daysLasted, Cond.instanceMethod yX1_daysLasted, Cond.selects RX1 yX1_daysLasted yX1_daysLasted, Cond.initialized RX1, Cond.code yX1_daysLasted cX1_daysLasted 4 (some .int), Cond.fieldLink RX1 25 "CellDays$Cell" "leak" "I", Cond.methodLink RX1 47 yX1_chargeAtFirst, Cond.instanceMethod yX1_chargeAtFirst, Cond.selects RX1 yX1_chargeAtFirst yX1_chargeAtFirst, Cond.code yX1_chargeAtFirst cX1_chargeAtFirst 1 (some .int), Cond.fieldLink RX1 22 "CellDays$Cell" "room" "I", Cond.methodLink RX1 39 yX1_shareOn, Cond.instanceMethod yX1_shareOn, Cond.selects RX1 yX1_shareOn yX1_shareOn]
def wsX5_sureBy_r3 : List Cond := [Cond.code yX1_shareOn cX1_shareOn 3 (some .int), Cond.fieldLink RX1 18 "CellDays$Cell" "places" "I", Cond.fieldLink RX1 9 "CellDays$Cell" "sharesByWarmth" "[I", Cond.fieldLink RX1 15 "CellDays$Cell" "warmths" "[I", Cond.static yX5_at, Cond.initialized RX5, Cond.code yX5_at cX5_at 2 (some .int), Cond.methodLink RX1 43 yX1_chargeBehind, Cond.instanceMethod yX1_chargeBehind, Cond.selects RX1 yX1_chargeBehind yX1_chargeBehind, Cond.code yX1_chargeBehind cX1_chargeBehind 7 (some .int)]
def wsX5_sureBy : List Cond := .code yX5_sureBy cX5_sureBy 2 (some .int) :: ((wsX5_sureBy_r1 ++ (wsX5_sureBy_r2 ++ wsX5_sureBy_r3)) ++ wsX50 ++ wsX10 ++ wsX20 ++ wsX30)
def wsX5_price_r1 : List Cond := [Cond.fieldLink RX5 19 "CellDays" "duties" "LCellDays$Duties;", Cond.methodLink RX5 91 yX2_numbered, Cond.instanceMethod yX2_numbered, Cond.selects RX2 yX2_numbered yX2_numbered, Cond.initialized RX2, Cond.code yX2_numbered cX2_numbered 2 (some (.object "CellDays$Duty")), Cond.fieldLink RX2 15 "CellDays$Duties" "size" "I", Cond.fieldLink RX2 9 "CellDays$Duties" "row" "[LCellDays$Duty;", Cond.methodLink RX5 120 yX2_setOfOn, Cond.instanceMethod yX2_setOfOn, Cond.selects RX2 yX2_setOfOn yX2_setOfOn, Cond.code yX2_setOfOn cX2_setOfOn 4 (some .int), Cond.methodLink RX2 19 yX2_numbered, Cond.methodLink RX5 141 yX5_sureBy, Cond.instanceMethod yX5_sureBy, Cond.selects RX5 yX5_sureBy yX5_sureBy, Cond.initialized RX5, Cond.code yX5_sureBy cX5_sureBy 2 (some .int), Cond.fieldLink RX5 10 "CellDays" "cell" "LCellDays$Cell;", Cond.methodLink RX5 123 yX2_loadOf, Cond.instanceMethod yX2_loadOf, Cond.selects RX2 yX2_loadOf yX2_loadOf, Cond.code yX2_loadOf cX2_loadOf 7 (some .int), Cond.methodLink RX2 27 yX2_numberedIn]
def wsX5_price_r2 : List Cond := [Cond.instanceMethod yX2_numberedIn, Cond.selects RX2 yX2_numberedIn yX2_numberedIn, Cond.code yX2_numberedIn cX2_numberedIn 3 (some (.object "CellDays$Duty")), Cond.methodLink RX2 31 yX3_drainBy, Cond.instanceMethod yX3_drainBy, Cond.selects RX3 yX3_drainBy yX3_drainBy, Cond.initialized RX3, Cond.code yX3_drainBy cX3_drainBy 4 (some .int), Cond.fieldLink RX3 15 "CellDays$Duty" "load" "I", Cond.fieldLink RX3 18 "CellDays$Duty" "times" "I", Cond.fieldLink RX3 9 "CellDays$Duty" "kind" "I", Cond.fieldLink RX3 21 "CellDays$Duty" "peak" "I", Cond.methodLink RX3 34 Lib.Math.max.name, Cond.static Lib.Math.max.name, Cond.initialized "java/lang/Math", Cond.code Lib.Math.max.name Lib.Math.max.code 2 (some .int), Cond.fieldLink RX3 24 "CellDays$Duty" "tries" "I", Cond.methodLink RX3 40 Lib.Math.min.name, Cond.static Lib.Math.min.name, Cond.code Lib.Math.min.name Lib.Math.min.code 2 (some .int), Cond.methodLink RX5 127 yX1_daysLasted, Cond.instanceMethod yX1_daysLasted, Cond.selects RX1 yX1_daysLasted yX1_daysLasted, Cond.initialized RX1]
def wsX5_price_r3 : List Cond := [Cond.code yX1_daysLasted cX1_daysLasted 4 (some .int), Cond.fieldLink RX1 25 "CellDays$Cell" "leak" "I", Cond.methodLink RX1 47 yX1_chargeAtFirst, Cond.instanceMethod yX1_chargeAtFirst, Cond.selects RX1 yX1_chargeAtFirst yX1_chargeAtFirst, Cond.code yX1_chargeAtFirst cX1_chargeAtFirst 1 (some .int), Cond.fieldLink RX1 22 "CellDays$Cell" "room" "I", Cond.methodLink RX1 39 yX1_shareOn, Cond.instanceMethod yX1_shareOn, Cond.selects RX1 yX1_shareOn yX1_shareOn, Cond.code yX1_shareOn cX1_shareOn 3 (some .int), Cond.fieldLink RX1 18 "CellDays$Cell" "places" "I", Cond.fieldLink RX1 9 "CellDays$Cell" "sharesByWarmth" "[I", Cond.fieldLink RX1 15 "CellDays$Cell" "warmths" "[I", Cond.static yX5_at, Cond.code yX5_at cX5_at 2 (some .int), Cond.methodLink RX1 43 yX1_chargeBehind, Cond.instanceMethod yX1_chargeBehind, Cond.selects RX1 yX1_chargeBehind yX1_chargeBehind, Cond.code yX1_chargeBehind cX1_chargeBehind 7 (some .int)]
def wsX5_price : List Cond := .code yX5_price cX5_price 4 (some .int) :: ((wsX5_price_r1 ++ (wsX5_price_r2 ++ wsX5_price_r3)) ++ wsX50 ++ wsX20 ++ wsX30 ++ wsX10)
def wsX5_worthiestSet_r1 : List Cond := [Cond.fieldLink RX5 19 "CellDays" "duties" "LCellDays$Duties;", Cond.methodLink RX5 147 yX2_worthOf, Cond.instanceMethod yX2_worthOf, Cond.selects RX2 yX2_worthOf yX2_worthOf, Cond.initialized RX2, Cond.code yX2_worthOf cX2_worthOf 5 (some .int), Cond.fieldLink RX2 15 "CellDays$Duties" "size" "I", Cond.methodLink RX2 27 yX2_numberedIn, Cond.instanceMethod yX2_numberedIn, Cond.selects RX2 yX2_numberedIn yX2_numberedIn, Cond.code yX2_numberedIn cX2_numberedIn 3 (some (.object "CellDays$Duty")), Cond.methodLink RX2 19 yX2_numbered, Cond.instanceMethod yX2_numbered, Cond.selects RX2 yX2_numbered yX2_numbered, Cond.code yX2_numbered cX2_numbered 2 (some (.object "CellDays$Duty")), Cond.fieldLink RX2 9 "CellDays$Duties" "row" "[LCellDays$Duty;", Cond.methodLink RX5 141 yX5_sureBy, Cond.instanceMethod yX5_sureBy, Cond.selects RX5 yX5_sureBy yX5_sureBy, Cond.initialized RX5, Cond.code yX5_sureBy cX5_sureBy 2 (some .int), Cond.fieldLink RX5 10 "CellDays" "cell" "LCellDays$Cell;", Cond.methodLink RX5 123 yX2_loadOf, Cond.instanceMethod yX2_loadOf]
def wsX5_worthiestSet_r2 : List Cond := [Cond.selects RX2 yX2_loadOf yX2_loadOf, Cond.code yX2_loadOf cX2_loadOf 7 (some .int), Cond.methodLink RX2 31 yX3_drainBy, Cond.instanceMethod yX3_drainBy, Cond.selects RX3 yX3_drainBy yX3_drainBy, Cond.initialized RX3, Cond.code yX3_drainBy cX3_drainBy 4 (some .int), Cond.fieldLink RX3 15 "CellDays$Duty" "load" "I", Cond.fieldLink RX3 18 "CellDays$Duty" "times" "I", Cond.fieldLink RX3 9 "CellDays$Duty" "kind" "I", Cond.fieldLink RX3 21 "CellDays$Duty" "peak" "I", Cond.methodLink RX3 34 Lib.Math.max.name, Cond.static Lib.Math.max.name, Cond.initialized "java/lang/Math", Cond.code Lib.Math.max.name Lib.Math.max.code 2 (some .int), Cond.fieldLink RX3 24 "CellDays$Duty" "tries" "I", Cond.methodLink RX3 40 Lib.Math.min.name, Cond.static Lib.Math.min.name, Cond.code Lib.Math.min.name Lib.Math.min.code 2 (some .int), Cond.methodLink RX5 127 yX1_daysLasted, Cond.instanceMethod yX1_daysLasted, Cond.selects RX1 yX1_daysLasted yX1_daysLasted, Cond.initialized RX1, Cond.code yX1_daysLasted cX1_daysLasted 4 (some .int)]
def wsX5_worthiestSet_r3 : List Cond := [Cond.fieldLink RX1 25 "CellDays$Cell" "leak" "I", Cond.methodLink RX1 47 yX1_chargeAtFirst, Cond.instanceMethod yX1_chargeAtFirst, Cond.selects RX1 yX1_chargeAtFirst yX1_chargeAtFirst, Cond.code yX1_chargeAtFirst cX1_chargeAtFirst 1 (some .int), Cond.fieldLink RX1 22 "CellDays$Cell" "room" "I", Cond.methodLink RX1 39 yX1_shareOn, Cond.instanceMethod yX1_shareOn, Cond.selects RX1 yX1_shareOn yX1_shareOn, Cond.code yX1_shareOn cX1_shareOn 3 (some .int), Cond.fieldLink RX1 18 "CellDays$Cell" "places" "I", Cond.fieldLink RX1 9 "CellDays$Cell" "sharesByWarmth" "[I", Cond.fieldLink RX1 15 "CellDays$Cell" "warmths" "[I", Cond.static yX5_at, Cond.code yX5_at cX5_at 2 (some .int), Cond.methodLink RX1 43 yX1_chargeBehind, Cond.instanceMethod yX1_chargeBehind, Cond.selects RX1 yX1_chargeBehind yX1_chargeBehind, Cond.code yX1_chargeBehind cX1_chargeBehind 7 (some .int)]
def wsX5_worthiestSet : List Cond := .code yX5_worthiestSet cX5_worthiestSet 7 (some .int) :: ((wsX5_worthiestSet_r1 ++ (wsX5_worthiestSet_r2 ++ wsX5_worthiestSet_r3)) ++ wsX50 ++ wsX20 ++ wsX30 ++ wsX10)
def wsX5_plan_r1 : List Cond := [Cond.fieldLink RX5 19 "CellDays" "duties" "LCellDays$Duties;", Cond.methodLink RX5 43 yX5_within, Cond.static yX5_within, Cond.initialized RX5, Cond.code yX5_within cX5_within 3 (some .boolean), Cond.methodLink RX5 144 yX5_worthiestSet, Cond.instanceMethod yX5_worthiestSet, Cond.selects RX5 yX5_worthiestSet yX5_worthiestSet, Cond.code yX5_worthiestSet cX5_worthiestSet 7 (some .int), Cond.methodLink RX5 147 yX2_worthOf, Cond.instanceMethod yX2_worthOf, Cond.selects RX2 yX2_worthOf yX2_worthOf, Cond.initialized RX2, Cond.code yX2_worthOf cX2_worthOf 5 (some .int), Cond.fieldLink RX2 15 "CellDays$Duties" "size" "I", Cond.methodLink RX2 27 yX2_numberedIn, Cond.instanceMethod yX2_numberedIn, Cond.selects RX2 yX2_numberedIn yX2_numberedIn, Cond.code yX2_numberedIn cX2_numberedIn 3 (some (.object "CellDays$Duty")), Cond.methodLink RX2 19 yX2_numbered, Cond.instanceMethod yX2_numbered, Cond.selects RX2 yX2_numbered yX2_numbered, Cond.code yX2_numbered cX2_numbered 2 (some (.object "CellDays$Duty")), Cond.fieldLink RX2 9 "CellDays$Duties" "row" "[LCellDays$Duty;"]
def wsX5_plan_r2 : List Cond := [Cond.methodLink RX5 141 yX5_sureBy, Cond.instanceMethod yX5_sureBy, Cond.selects RX5 yX5_sureBy yX5_sureBy, Cond.code yX5_sureBy cX5_sureBy 2 (some .int), Cond.fieldLink RX5 10 "CellDays" "cell" "LCellDays$Cell;", Cond.methodLink RX5 123 yX2_loadOf, Cond.instanceMethod yX2_loadOf, Cond.selects RX2 yX2_loadOf yX2_loadOf, Cond.code yX2_loadOf cX2_loadOf 7 (some .int), Cond.methodLink RX2 31 yX3_drainBy, Cond.instanceMethod yX3_drainBy, Cond.selects RX3 yX3_drainBy yX3_drainBy, Cond.initialized RX3, Cond.code yX3_drainBy cX3_drainBy 4 (some .int), Cond.fieldLink RX3 15 "CellDays$Duty" "load" "I", Cond.fieldLink RX3 18 "CellDays$Duty" "times" "I", Cond.fieldLink RX3 9 "CellDays$Duty" "kind" "I", Cond.fieldLink RX3 21 "CellDays$Duty" "peak" "I", Cond.methodLink RX3 34 Lib.Math.max.name, Cond.static Lib.Math.max.name, Cond.initialized "java/lang/Math", Cond.code Lib.Math.max.name Lib.Math.max.code 2 (some .int), Cond.fieldLink RX3 24 "CellDays$Duty" "tries" "I", Cond.methodLink RX3 40 Lib.Math.min.name]
def wsX5_plan_r3 : List Cond := [Cond.static Lib.Math.min.name, Cond.code Lib.Math.min.name Lib.Math.min.code 2 (some .int), Cond.methodLink RX5 127 yX1_daysLasted, Cond.instanceMethod yX1_daysLasted, Cond.selects RX1 yX1_daysLasted yX1_daysLasted, Cond.initialized RX1, Cond.code yX1_daysLasted cX1_daysLasted 4 (some .int), Cond.fieldLink RX1 25 "CellDays$Cell" "leak" "I", Cond.methodLink RX1 47 yX1_chargeAtFirst, Cond.instanceMethod yX1_chargeAtFirst, Cond.selects RX1 yX1_chargeAtFirst yX1_chargeAtFirst, Cond.code yX1_chargeAtFirst cX1_chargeAtFirst 1 (some .int), Cond.fieldLink RX1 22 "CellDays$Cell" "room" "I", Cond.methodLink RX1 39 yX1_shareOn, Cond.instanceMethod yX1_shareOn, Cond.selects RX1 yX1_shareOn yX1_shareOn, Cond.code yX1_shareOn cX1_shareOn 3 (some .int), Cond.fieldLink RX1 18 "CellDays$Cell" "places" "I", Cond.fieldLink RX1 9 "CellDays$Cell" "sharesByWarmth" "[I", Cond.fieldLink RX1 15 "CellDays$Cell" "warmths" "[I", Cond.static yX5_at, Cond.code yX5_at cX5_at 2 (some .int), Cond.methodLink RX1 43 yX1_chargeBehind, Cond.instanceMethod yX1_chargeBehind]
def wsX5_plan_r4 : List Cond := [Cond.selects RX1 yX1_chargeBehind yX1_chargeBehind, Cond.code yX1_chargeBehind cX1_chargeBehind 7 (some .int)]
def wsX5_plan : List Cond := .code yX5_plan cX5_plan 4 (some .int) :: ((wsX5_plan_r1 ++ (wsX5_plan_r2 ++ (wsX5_plan_r3 ++ wsX5_plan_r4))) ++ wsX50 ++ wsX20 ++ wsX30 ++ wsX10)
def wsX5_sign_r1 : List Cond := [Cond.fieldLink RX5 26 "CellDays" "signs" "LCellDays$Signs;", Cond.methodLink RX5 68 yX5_isDay, Cond.static yX5_isDay, Cond.initialized RX5, Cond.code yX5_isDay cX5_isDay 1 (some .boolean), Cond.methodLink RX5 43 yX5_within, Cond.static yX5_within, Cond.code yX5_within cX5_within 3 (some .boolean), Cond.methodLink RX5 150 yX4_isFull, Cond.instanceMethod yX4_isFull, Cond.selects RX4 yX4_isFull yX4_isFull, Cond.initialized RX4, Cond.code yX4_isFull cX4_isFull 1 (some .boolean), Cond.fieldLink RX4 19 "CellDays$Signs" "size" "I", Cond.methodLink RX5 151 yX4_add, Cond.instanceMethod yX4_add, Cond.selects RX4 yX4_add yX4_add, Cond.code yX4_add cX4_add 3 (some .int), Cond.fieldLink RX4 9 "CellDays$Signs" "days" "[I", Cond.fieldLink RX4 13 "CellDays$Signs" "levels" "[I", Cond.static yX5_put, Cond.code yX5_put cX5_put 3 none, Cond.methodLink RX4 29 yX4_arrange, Cond.instanceMethod yX4_arrange]
def wsX5_sign_r2 : List Cond := [Cond.selects RX4 yX4_arrange yX4_arrange, Cond.code yX4_arrange cX4_arrange 3 none, Cond.fieldLink RX4 16 "CellDays$Signs" "order" "[I", Cond.methodLink RX4 32 yX4_dayInOrder, Cond.instanceMethod yX4_dayInOrder, Cond.selects RX4 yX4_dayInOrder yX4_dayInOrder, Cond.code yX4_dayInOrder cX4_dayInOrder 2 (some .int), Cond.static yX5_at, Cond.code yX5_at cX5_at 2 (some .int)]
def wsX5_sign : List Cond := .code yX5_sign cX5_sign 3 (some .int) :: ((wsX5_sign_r1 ++ wsX5_sign_r2) ++ wsX50 ++ wsX40)
def wsX5_forget : List Cond := .code yX5_forget cX5_forget 1 (some .int) :: ([.fieldLink RX5 26 "CellDays" "signs" "LCellDays$Signs;", .methodLink RX5 154 yX4_removeLatest, .instanceMethod yX4_removeLatest, .selects RX4 yX4_removeLatest yX4_removeLatest, .initialized RX4, .code yX4_removeLatest cX4_removeLatest 1 (some .int), .fieldLink RX4 19 "CellDays$Signs" "size" "I", .methodLink RX4 29 yX4_arrange, .instanceMethod yX4_arrange, .selects RX4 yX4_arrange yX4_arrange, .code yX4_arrange cX4_arrange 3 none, .fieldLink RX4 9 "CellDays$Signs" "days" "[I", .fieldLink RX4 16 "CellDays$Signs" "order" "[I", .methodLink RX4 32 yX4_dayInOrder, .instanceMethod yX4_dayInOrder, .selects RX4 yX4_dayInOrder yX4_dayInOrder, .code yX4_dayInOrder cX4_dayInOrder 2 (some .int), .static yX5_at, .initialized RX5, .code yX5_at cX5_at 2 (some .int), .static yX5_put, .code yX5_put cX5_put 3 none] ++ wsX50 ++ wsX40)
def wsX5_level_r1 : List Cond := [Cond.fieldLink RX5 35 "CellDays" "cases" "LCellDays$Cases;", Cond.methodLink RX5 155 yX0_isNumber, Cond.static yX0_isNumber, Cond.initialized RX0, Cond.code yX0_isNumber cX0_isNumber 1 (some .boolean), Cond.static yX5_within, Cond.initialized RX5, Cond.code yX5_within cX5_within 3 (some .boolean), Cond.methodLink RX5 68 yX5_isDay, Cond.static yX5_isDay, Cond.code yX5_isDay cX5_isDay 1 (some .boolean), Cond.methodLink RX5 43 yX5_within, Cond.methodLink RX5 158 yX0_levelAhead, Cond.instanceMethod yX0_levelAhead, Cond.selects RX0 yX0_levelAhead yX0_levelAhead, Cond.code yX0_levelAhead cX0_levelAhead 3 (some .int), Cond.fieldLink RX0 30 "CellDays$Cases" "cell" "LCellDays$Cell;", Cond.methodLink RX0 66 yX0_leakOf, Cond.instanceMethod yX0_leakOf, Cond.selects RX0 yX0_leakOf yX0_leakOf, Cond.code yX0_leakOf cX0_leakOf 2 (some .int), Cond.methodLink RX0 69 yX0_loadOfCase, Cond.instanceMethod yX0_loadOfCase, Cond.selects RX0 yX0_loadOfCase yX0_loadOfCase]
def wsX5_level_r2 : List Cond := [Cond.code yX0_loadOfCase cX0_loadOfCase 3 (some .int), Cond.fieldLink RX0 34 "CellDays$Cases" "duties" "LCellDays$Duties;", Cond.methodLink RX0 49 yX2_setOfOn, Cond.instanceMethod yX2_setOfOn, Cond.selects RX2 yX2_setOfOn yX2_setOfOn, Cond.initialized RX2, Cond.code yX2_setOfOn cX2_setOfOn 4 (some .int), Cond.fieldLink RX2 15 "CellDays$Duties" "size" "I", Cond.methodLink RX2 19 yX2_numbered, Cond.instanceMethod yX2_numbered, Cond.selects RX2 yX2_numbered yX2_numbered, Cond.code yX2_numbered cX2_numbered 2 (some (.object "CellDays$Duty")), Cond.fieldLink RX2 9 "CellDays$Duties" "row" "[LCellDays$Duty;", Cond.methodLink RX0 58 yX2_loadOf, Cond.instanceMethod yX2_loadOf, Cond.selects RX2 yX2_loadOf yX2_loadOf, Cond.code yX2_loadOf cX2_loadOf 7 (some .int), Cond.methodLink RX2 27 yX2_numberedIn, Cond.instanceMethod yX2_numberedIn, Cond.selects RX2 yX2_numberedIn yX2_numberedIn, Cond.code yX2_numberedIn cX2_numberedIn 3 (some (.object "CellDays$Duty")), Cond.methodLink RX2 31 yX3_drainBy, Cond.instanceMethod yX3_drainBy, Cond.selects RX3 yX3_drainBy yX3_drainBy]
def wsX5_level_r3 : List Cond := [Cond.initialized RX3, Cond.code yX3_drainBy cX3_drainBy 4 (some .int), Cond.fieldLink RX3 15 "CellDays$Duty" "load" "I", Cond.fieldLink RX3 18 "CellDays$Duty" "times" "I", Cond.fieldLink RX3 9 "CellDays$Duty" "kind" "I", Cond.fieldLink RX3 21 "CellDays$Duty" "peak" "I", Cond.methodLink RX3 34 Lib.Math.max.name, Cond.static Lib.Math.max.name, Cond.initialized "java/lang/Math", Cond.code Lib.Math.max.name Lib.Math.max.code 2 (some .int), Cond.fieldLink RX3 24 "CellDays$Duty" "tries" "I", Cond.methodLink RX3 40 Lib.Math.min.name, Cond.static Lib.Math.min.name, Cond.code Lib.Math.min.name Lib.Math.min.code 2 (some .int), Cond.methodLink RX0 62 yX0_oddOf, Cond.static yX0_oddOf, Cond.code yX0_oddOf cX0_oddOf 1 (some .int), Cond.methodLink RX0 72 yX1_chargeAhead, Cond.instanceMethod yX1_chargeAhead, Cond.selects RX1 yX1_chargeAhead yX1_chargeAhead, Cond.initialized RX1, Cond.code yX1_chargeAhead cX1_chargeAhead 4 (some .int), Cond.methodLink RX1 47 yX1_chargeAtFirst, Cond.instanceMethod yX1_chargeAtFirst]
def wsX5_level_r4 : List Cond := [Cond.selects RX1 yX1_chargeAtFirst yX1_chargeAtFirst, Cond.code yX1_chargeAtFirst cX1_chargeAtFirst 1 (some .int), Cond.fieldLink RX1 22 "CellDays$Cell" "room" "I", Cond.methodLink RX1 51 yX1_chargeFrom, Cond.instanceMethod yX1_chargeFrom, Cond.selects RX1 yX1_chargeFrom yX1_chargeFrom, Cond.code yX1_chargeFrom cX1_chargeFrom 8 (some .int), Cond.methodLink RX1 39 yX1_shareOn, Cond.instanceMethod yX1_shareOn, Cond.selects RX1 yX1_shareOn yX1_shareOn, Cond.code yX1_shareOn cX1_shareOn 3 (some .int), Cond.fieldLink RX1 18 "CellDays$Cell" "places" "I", Cond.fieldLink RX1 9 "CellDays$Cell" "sharesByWarmth" "[I", Cond.fieldLink RX1 15 "CellDays$Cell" "warmths" "[I", Cond.static yX5_at, Cond.code yX5_at cX5_at 2 (some .int), Cond.methodLink RX1 43 yX1_chargeBehind, Cond.instanceMethod yX1_chargeBehind, Cond.selects RX1 yX1_chargeBehind yX1_chargeBehind, Cond.code yX1_chargeBehind cX1_chargeBehind 7 (some .int), Cond.methodLink RX0 75 yX1_levelOf, Cond.instanceMethod yX1_levelOf, Cond.selects RX1 yX1_levelOf yX1_levelOf, Cond.code yX1_levelOf cX1_levelOf 3 (some .int)]
def wsX5_level_r5 : List Cond := [Cond.methodLink RX1 55 Lib.Math.min.name]
def wsX5_level : List Cond := .code yX5_level cX5_level 3 (some .int) :: ((wsX5_level_r1 ++ (wsX5_level_r2 ++ (wsX5_level_r3 ++ (wsX5_level_r4 ++ wsX5_level_r5)))) ++ wsX50 ++ wsX00 ++ wsX10 ++ wsX20 ++ wsX30)
def wsX5_agrees_r1 : List Cond := [Cond.fieldLink RX5 35 "CellDays" "cases" "LCellDays$Cases;", Cond.methodLink RX5 155 yX0_isNumber, Cond.static yX0_isNumber, Cond.initialized RX0, Cond.code yX0_isNumber cX0_isNumber 1 (some .boolean), Cond.static yX5_within, Cond.initialized RX5, Cond.code yX5_within cX5_within 3 (some .boolean), Cond.methodLink RX5 161 yX0_fitsSigns, Cond.instanceMethod yX0_fitsSigns, Cond.selects RX0 yX0_fitsSigns yX0_fitsSigns, Cond.code yX0_fitsSigns cX0_fitsSigns 8 (some .boolean), Cond.fieldLink RX0 30 "CellDays$Cases" "cell" "LCellDays$Cell;", Cond.fieldLink RX0 38 "CellDays$Cases" "signs" "LCellDays$Signs;", Cond.methodLink RX0 66 yX0_leakOf, Cond.instanceMethod yX0_leakOf, Cond.selects RX0 yX0_leakOf yX0_leakOf, Cond.code yX0_leakOf cX0_leakOf 2 (some .int), Cond.methodLink RX0 69 yX0_loadOfCase, Cond.instanceMethod yX0_loadOfCase, Cond.selects RX0 yX0_loadOfCase yX0_loadOfCase, Cond.code yX0_loadOfCase cX0_loadOfCase 3 (some .int), Cond.fieldLink RX0 34 "CellDays$Cases" "duties" "LCellDays$Duties;", Cond.methodLink RX0 49 yX2_setOfOn]
def wsX5_agrees_r2 : List Cond := [Cond.instanceMethod yX2_setOfOn, Cond.selects RX2 yX2_setOfOn yX2_setOfOn, Cond.initialized RX2, Cond.code yX2_setOfOn cX2_setOfOn 4 (some .int), Cond.fieldLink RX2 15 "CellDays$Duties" "size" "I", Cond.methodLink RX2 19 yX2_numbered, Cond.instanceMethod yX2_numbered, Cond.selects RX2 yX2_numbered yX2_numbered, Cond.code yX2_numbered cX2_numbered 2 (some (.object "CellDays$Duty")), Cond.fieldLink RX2 9 "CellDays$Duties" "row" "[LCellDays$Duty;", Cond.methodLink RX0 58 yX2_loadOf, Cond.instanceMethod yX2_loadOf, Cond.selects RX2 yX2_loadOf yX2_loadOf, Cond.code yX2_loadOf cX2_loadOf 7 (some .int), Cond.methodLink RX2 27 yX2_numberedIn, Cond.instanceMethod yX2_numberedIn, Cond.selects RX2 yX2_numberedIn yX2_numberedIn, Cond.code yX2_numberedIn cX2_numberedIn 3 (some (.object "CellDays$Duty")), Cond.methodLink RX2 31 yX3_drainBy, Cond.instanceMethod yX3_drainBy, Cond.selects RX3 yX3_drainBy yX3_drainBy, Cond.initialized RX3, Cond.code yX3_drainBy cX3_drainBy 4 (some .int), Cond.fieldLink RX3 15 "CellDays$Duty" "load" "I"]
def wsX5_agrees_r3 : List Cond := [Cond.fieldLink RX3 18 "CellDays$Duty" "times" "I", Cond.fieldLink RX3 9 "CellDays$Duty" "kind" "I", Cond.fieldLink RX3 21 "CellDays$Duty" "peak" "I", Cond.methodLink RX3 34 Lib.Math.max.name, Cond.static Lib.Math.max.name, Cond.initialized "java/lang/Math", Cond.code Lib.Math.max.name Lib.Math.max.code 2 (some .int), Cond.fieldLink RX3 24 "CellDays$Duty" "tries" "I", Cond.methodLink RX3 40 Lib.Math.min.name, Cond.static Lib.Math.min.name, Cond.code Lib.Math.min.name Lib.Math.min.code 2 (some .int), Cond.methodLink RX0 62 yX0_oddOf, Cond.static yX0_oddOf, Cond.code yX0_oddOf cX0_oddOf 1 (some .int), Cond.methodLink RX0 78 yX1_chargeAtFirst, Cond.instanceMethod yX1_chargeAtFirst, Cond.selects RX1 yX1_chargeAtFirst yX1_chargeAtFirst, Cond.initialized RX1, Cond.code yX1_chargeAtFirst cX1_chargeAtFirst 1 (some .int), Cond.fieldLink RX1 22 "CellDays$Cell" "room" "I", Cond.methodLink RX0 86 yX4_dayInOrder, Cond.instanceMethod yX4_dayInOrder, Cond.selects RX4 yX4_dayInOrder yX4_dayInOrder, Cond.initialized RX4]
def wsX5_agrees_r4 : List Cond := [Cond.code yX4_dayInOrder cX4_dayInOrder 2 (some .int), Cond.fieldLink RX4 9 "CellDays$Signs" "days" "[I", Cond.fieldLink RX4 16 "CellDays$Signs" "order" "[I", Cond.static yX5_at, Cond.code yX5_at cX5_at 2 (some .int), Cond.methodLink RX0 89 yX1_chargeFrom, Cond.instanceMethod yX1_chargeFrom, Cond.selects RX1 yX1_chargeFrom yX1_chargeFrom, Cond.code yX1_chargeFrom cX1_chargeFrom 8 (some .int), Cond.methodLink RX1 39 yX1_shareOn, Cond.instanceMethod yX1_shareOn, Cond.selects RX1 yX1_shareOn yX1_shareOn, Cond.code yX1_shareOn cX1_shareOn 3 (some .int), Cond.fieldLink RX1 18 "CellDays$Cell" "places" "I", Cond.fieldLink RX1 9 "CellDays$Cell" "sharesByWarmth" "[I", Cond.fieldLink RX1 15 "CellDays$Cell" "warmths" "[I", Cond.methodLink RX1 43 yX1_chargeBehind, Cond.instanceMethod yX1_chargeBehind, Cond.selects RX1 yX1_chargeBehind yX1_chargeBehind, Cond.code yX1_chargeBehind cX1_chargeBehind 7 (some .int), Cond.methodLink RX0 75 yX1_levelOf, Cond.instanceMethod yX1_levelOf, Cond.selects RX1 yX1_levelOf yX1_levelOf, Cond.code yX1_levelOf cX1_levelOf 3 (some .int)]
def wsX5_agrees_r5 : List Cond := [Cond.methodLink RX1 55 Lib.Math.min.name, Cond.methodLink RX1 47 yX1_chargeAtFirst, Cond.methodLink RX0 93 yX4_levelInOrder, Cond.instanceMethod yX4_levelInOrder, Cond.selects RX4 yX4_levelInOrder yX4_levelInOrder, Cond.code yX4_levelInOrder cX4_levelInOrder 2 (some .int), Cond.fieldLink RX4 13 "CellDays$Signs" "levels" "[I"]
def wsX5_agrees : List Cond := .code yX5_agrees cX5_agrees 2 (some .int) :: ((wsX5_agrees_r1 ++ (wsX5_agrees_r2 ++ (wsX5_agrees_r3 ++ (wsX5_agrees_r4 ++ wsX5_agrees_r5)))) ++ wsX50 ++ wsX00 ++ wsX40 ++ wsX10 ++ wsX20 ++ wsX30)
def wsX5_field_r1 : List Cond := [Cond.fieldLink RX5 35 "CellDays" "cases" "LCellDays$Cases;", Cond.methodLink RX5 43 yX5_within, Cond.static yX5_within, Cond.initialized RX5, Cond.code yX5_within cX5_within 3 (some .boolean), Cond.methodLink RX5 164 yX0_gatherAgreeing, Cond.instanceMethod yX0_gatherAgreeing, Cond.selects RX0 yX0_gatherAgreeing yX0_gatherAgreeing, Cond.initialized RX0, Cond.code yX0_gatherAgreeing cX0_gatherAgreeing 2 none, Cond.fieldLink RX0 26 "CellDays$Cases" "agreed" "I", Cond.fieldLink RX0 11 "CellDays$Cases" "agreeing" "[I", Cond.methodLink RX0 96 yX0_fitsSigns, Cond.instanceMethod yX0_fitsSigns, Cond.selects RX0 yX0_fitsSigns yX0_fitsSigns, Cond.code yX0_fitsSigns cX0_fitsSigns 8 (some .boolean), Cond.fieldLink RX0 30 "CellDays$Cases" "cell" "LCellDays$Cell;", Cond.fieldLink RX0 38 "CellDays$Cases" "signs" "LCellDays$Signs;", Cond.methodLink RX0 66 yX0_leakOf, Cond.instanceMethod yX0_leakOf, Cond.selects RX0 yX0_leakOf yX0_leakOf, Cond.code yX0_leakOf cX0_leakOf 2 (some .int), Cond.methodLink RX0 69 yX0_loadOfCase, Cond.instanceMethod yX0_loadOfCase]
def wsX5_field_r2 : List Cond := [Cond.selects RX0 yX0_loadOfCase yX0_loadOfCase, Cond.code yX0_loadOfCase cX0_loadOfCase 3 (some .int), Cond.fieldLink RX0 34 "CellDays$Cases" "duties" "LCellDays$Duties;", Cond.methodLink RX0 49 yX2_setOfOn, Cond.instanceMethod yX2_setOfOn, Cond.selects RX2 yX2_setOfOn yX2_setOfOn, Cond.initialized RX2, Cond.code yX2_setOfOn cX2_setOfOn 4 (some .int), Cond.fieldLink RX2 15 "CellDays$Duties" "size" "I", Cond.methodLink RX2 19 yX2_numbered, Cond.instanceMethod yX2_numbered, Cond.selects RX2 yX2_numbered yX2_numbered, Cond.code yX2_numbered cX2_numbered 2 (some (.object "CellDays$Duty")), Cond.fieldLink RX2 9 "CellDays$Duties" "row" "[LCellDays$Duty;", Cond.methodLink RX0 58 yX2_loadOf, Cond.instanceMethod yX2_loadOf, Cond.selects RX2 yX2_loadOf yX2_loadOf, Cond.code yX2_loadOf cX2_loadOf 7 (some .int), Cond.methodLink RX2 27 yX2_numberedIn, Cond.instanceMethod yX2_numberedIn, Cond.selects RX2 yX2_numberedIn yX2_numberedIn, Cond.code yX2_numberedIn cX2_numberedIn 3 (some (.object "CellDays$Duty")), Cond.methodLink RX2 31 yX3_drainBy, Cond.instanceMethod yX3_drainBy]
def wsX5_field_r3 : List Cond := [Cond.selects RX3 yX3_drainBy yX3_drainBy, Cond.initialized RX3, Cond.code yX3_drainBy cX3_drainBy 4 (some .int), Cond.fieldLink RX3 15 "CellDays$Duty" "load" "I", Cond.fieldLink RX3 18 "CellDays$Duty" "times" "I", Cond.fieldLink RX3 9 "CellDays$Duty" "kind" "I", Cond.fieldLink RX3 21 "CellDays$Duty" "peak" "I", Cond.methodLink RX3 34 Lib.Math.max.name, Cond.static Lib.Math.max.name, Cond.initialized "java/lang/Math", Cond.code Lib.Math.max.name Lib.Math.max.code 2 (some .int), Cond.fieldLink RX3 24 "CellDays$Duty" "tries" "I", Cond.methodLink RX3 40 Lib.Math.min.name, Cond.static Lib.Math.min.name, Cond.code Lib.Math.min.name Lib.Math.min.code 2 (some .int), Cond.methodLink RX0 62 yX0_oddOf, Cond.static yX0_oddOf, Cond.code yX0_oddOf cX0_oddOf 1 (some .int), Cond.methodLink RX0 78 yX1_chargeAtFirst, Cond.instanceMethod yX1_chargeAtFirst, Cond.selects RX1 yX1_chargeAtFirst yX1_chargeAtFirst, Cond.initialized RX1, Cond.code yX1_chargeAtFirst cX1_chargeAtFirst 1 (some .int), Cond.fieldLink RX1 22 "CellDays$Cell" "room" "I"]
def wsX5_field_r4 : List Cond := [Cond.methodLink RX0 86 yX4_dayInOrder, Cond.instanceMethod yX4_dayInOrder, Cond.selects RX4 yX4_dayInOrder yX4_dayInOrder, Cond.initialized RX4, Cond.code yX4_dayInOrder cX4_dayInOrder 2 (some .int), Cond.fieldLink RX4 9 "CellDays$Signs" "days" "[I", Cond.fieldLink RX4 16 "CellDays$Signs" "order" "[I", Cond.static yX5_at, Cond.code yX5_at cX5_at 2 (some .int), Cond.methodLink RX0 89 yX1_chargeFrom, Cond.instanceMethod yX1_chargeFrom, Cond.selects RX1 yX1_chargeFrom yX1_chargeFrom, Cond.code yX1_chargeFrom cX1_chargeFrom 8 (some .int), Cond.methodLink RX1 39 yX1_shareOn, Cond.instanceMethod yX1_shareOn, Cond.selects RX1 yX1_shareOn yX1_shareOn, Cond.code yX1_shareOn cX1_shareOn 3 (some .int), Cond.fieldLink RX1 18 "CellDays$Cell" "places" "I", Cond.fieldLink RX1 9 "CellDays$Cell" "sharesByWarmth" "[I", Cond.fieldLink RX1 15 "CellDays$Cell" "warmths" "[I", Cond.methodLink RX1 43 yX1_chargeBehind, Cond.instanceMethod yX1_chargeBehind, Cond.selects RX1 yX1_chargeBehind yX1_chargeBehind, Cond.code yX1_chargeBehind cX1_chargeBehind 7 (some .int)]
def wsX5_field_r5 : List Cond := [Cond.methodLink RX0 75 yX1_levelOf, Cond.instanceMethod yX1_levelOf, Cond.selects RX1 yX1_levelOf yX1_levelOf, Cond.code yX1_levelOf cX1_levelOf 3 (some .int), Cond.methodLink RX1 55 Lib.Math.min.name, Cond.methodLink RX1 47 yX1_chargeAtFirst, Cond.methodLink RX0 93 yX4_levelInOrder, Cond.instanceMethod yX4_levelInOrder, Cond.selects RX4 yX4_levelInOrder yX4_levelInOrder, Cond.code yX4_levelInOrder cX4_levelInOrder 2 (some .int), Cond.fieldLink RX4 13 "CellDays$Signs" "levels" "[I", Cond.static yX5_put, Cond.code yX5_put cX5_put 3 none, Cond.methodLink RX5 170 yX0_leastAgreeing, Cond.instanceMethod yX0_leastAgreeing, Cond.selects RX0 yX0_leastAgreeing yX0_leastAgreeing, Cond.code yX0_leastAgreeing cX0_leastAgreeing 1 (some .int), Cond.methodLink RX5 173 yX0_isOdd, Cond.instanceMethod yX0_isOdd, Cond.selects RX0 yX0_isOdd yX0_isOdd, Cond.code yX0_isOdd cX0_isOdd 2 (some .boolean), Cond.methodLink RX5 176 yX0_dayThatTellsMost, Cond.instanceMethod yX0_dayThatTellsMost, Cond.selects RX0 yX0_dayThatTellsMost yX0_dayThatTellsMost]
def wsX5_field_r6 : List Cond := [Cond.code yX0_dayThatTellsMost cX0_dayThatTellsMost 5 (some .int), Cond.fieldLink RX0 23 "CellDays$Cases" "atLevel" "[I", Cond.methodLink RX0 108 yX0_startAgreeing, Cond.instanceMethod yX0_startAgreeing, Cond.selects RX0 yX0_startAgreeing yX0_startAgreeing, Cond.code yX0_startAgreeing cX0_startAgreeing 2 none, Cond.fieldLink RX0 15 "CellDays$Cases" "loads" "[I", Cond.fieldLink RX0 18 "CellDays$Cases" "charges" "[I", Cond.methodLink RX0 111 yX0_greatestAtOneLevel, Cond.instanceMethod yX0_greatestAtOneLevel, Cond.selects RX0 yX0_greatestAtOneLevel yX0_greatestAtOneLevel, Cond.code yX0_greatestAtOneLevel cX0_greatestAtOneLevel 5 (some .int), Cond.methodLink RX0 118 Lib.Math.max.name, Cond.methodLink RX0 114 yX0_passDay, Cond.instanceMethod yX0_passDay, Cond.selects RX0 yX0_passDay yX0_passDay, Cond.code yX0_passDay cX0_passDay 5 none, Cond.methodLink RX0 124 yX1_shareOn, Cond.methodLink RX0 127 yX1_chargeBehind]
def wsX5_field : List Cond := .code yX5_field cX5_field 2 (some .int) :: ((wsX5_field_r1 ++ (wsX5_field_r2 ++ (wsX5_field_r3 ++ (wsX5_field_r4 ++ (wsX5_field_r5 ++ wsX5_field_r6))))) ++ wsX50 ++ wsX00 ++ wsX40 ++ wsX10 ++ wsX20 ++ wsX30)
def wsJ6_bitCount_0f7a4 : List Cond := .code yJ6_bitCount_0f7a4 cJ6_bitCount_0f7a4 1 (some .int) :: ([.constant RJ6 265 (1431655765), .constant RJ6 266 (858993459), .constant RJ6 267 (252645135)])
def wsX5_count : List Cond := .code yX5_count cX5_count 2 (some .int) :: ([.fieldLink RX5 19 "CellDays" "duties" "LCellDays$Duties;", .fieldLink RX5 26 "CellDays" "signs" "LCellDays$Signs;", .fieldLink RX5 10 "CellDays" "cell" "LCellDays$Cell;", .methodLink RX5 120 yX2_setOfOn, .instanceMethod yX2_setOfOn, .selects RX2 yX2_setOfOn yX2_setOfOn, .initialized RX2, .code yX2_setOfOn cX2_setOfOn 4 (some .int), .fieldLink RX2 15 "CellDays$Duties" "size" "I", .methodLink RX2 19 yX2_numbered, .instanceMethod yX2_numbered, .selects RX2 yX2_numbered yX2_numbered, .code yX2_numbered cX2_numbered 2 (some (.object "CellDays$Duty")), .fieldLink RX2 9 "CellDays$Duties" "row" "[LCellDays$Duty;", .methodLink RX5 179 yJ6_bitCount_0f7a4, .static yJ6_bitCount_0f7a4, .initialized RJ6, .code yJ6_bitCount_0f7a4 cJ6_bitCount_0f7a4 1 (some .int), .constant RJ6 265 (1431655765), .constant RJ6 266 (858993459), .constant RJ6 267 (252645135)] ++ wsX50 ++ wsX20 ++ wsX40 ++ wsX10 ++ wsX30)
def wsX5_trace : List Cond := .code yX5_trace cX5_trace 1 (some .long) :: ([.fieldLink RX5 39 "CellDays" "asked" "J"] ++ wsX50)
def wsX6_init : List Cond := .code yX6_init cX6_init 1 none :: ([.methodLink RX6 1 objectInit, .instanceMethod objectInit, .code objectInit ⟨#[0xb1]⟩ 1 none, .arrayClass .int, .fieldLink RX6 7 "CellDaysModel" "rules" "[I", .fieldLink RX6 13 "CellDaysModel" "shares" "[I", .fieldLink RX6 16 "CellDaysModel" "seasons" "I", .fieldLink RX6 20 "CellDaysModel" "season" "[I", .fieldLink RX6 23 "CellDaysModel" "kind" "[I", .fieldLink RX6 26 "CellDaysModel" "load" "[I", .fieldLink RX6 29 "CellDaysModel" "times" "[I", .fieldLink RX6 32 "CellDaysModel" "peak" "[I", .fieldLink RX6 35 "CellDaysModel" "tries" "[I", .fieldLink RX6 38 "CellDaysModel" "worth" "[I", .arrayClass .boolean, .fieldLink RX6 41 "CellDaysModel" "isOn" "[Z", .fieldLink RX6 45 "CellDaysModel" "signDay" "[I", .fieldLink RX6 48 "CellDaysModel" "signLevel" "[I", .fieldLink RX6 51 "CellDaysModel" "levels" "[I", .fieldLink RX6 54 "CellDaysModel" "met" "[I"] ++ wsX60)
def wsX6_in : List Cond := .code yX6_in cX6_in 3 (some .boolean) :: ([])
def wsX6_set : List Cond := .code yX6_set cX6_set 4 (some .int) :: ([.fieldLink RX6 57 "CellDaysModel" "thrown" "I", .fieldLink RX6 7 "CellDaysModel" "rules" "[I", .methodLink RX6 60 yX6_in, .static yX6_in, .initialized RX6, .code yX6_in cX6_in 3 (some .boolean)] ++ wsX60)
def wsX6_shares : List Cond := .code yX6_shares cX6_shares 4 (some .int) :: ([.fieldLink RX6 57 "CellDaysModel" "thrown" "I", .fieldLink RX6 13 "CellDaysModel" "shares" "[I", .methodLink RX6 60 yX6_in, .static yX6_in, .initialized RX6, .code yX6_in cX6_in 3 (some .boolean)] ++ wsX60)
def wsX6_season : List Cond := .code yX6_season cX6_season 6 (some .int) :: ([.fieldLink RX6 57 "CellDaysModel" "thrown" "I", .fieldLink RX6 16 "CellDaysModel" "seasons" "I", .fieldLink RX6 20 "CellDaysModel" "season" "[I", .methodLink RX6 60 yX6_in, .static yX6_in, .initialized RX6, .code yX6_in cX6_in 3 (some .boolean)] ++ wsX60)
def wsX6_shareOf : List Cond := .code yX6_shareOf cX6_shareOf 2 (some .int) :: ([.fieldLink RX6 13 "CellDaysModel" "shares" "[I", .fieldLink RX6 20 "CellDaysModel" "season" "[I", .fieldLink RX6 16 "CellDaysModel" "seasons" "I"] ++ wsX60)
def wsX6_isDay : List Cond := .code yX6_isDay cX6_isDay 1 (some .boolean) :: ([.methodLink RX6 60 yX6_in, .static yX6_in, .initialized RX6, .code yX6_in cX6_in 3 (some .boolean)])
def wsX6_share : List Cond := .code yX6_share cX6_share 2 (some .int) :: ([.fieldLink RX6 57 "CellDaysModel" "thrown" "I", .methodLink RX6 64 yX6_isDay, .static yX6_isDay, .initialized RX6, .code yX6_isDay cX6_isDay 1 (some .boolean), .methodLink RX6 60 yX6_in, .static yX6_in, .code yX6_in cX6_in 3 (some .boolean), .methodLink RX6 68 yX6_shareOf, .instanceMethod yX6_shareOf, .selects RX6 yX6_shareOf yX6_shareOf, .code yX6_shareOf cX6_shareOf 2 (some .int), .fieldLink RX6 13 "CellDaysModel" "shares" "[I", .fieldLink RX6 20 "CellDaysModel" "season" "[I", .fieldLink RX6 16 "CellDaysModel" "seasons" "I"] ++ wsX60)
def wsX6_isDuty : List Cond := .code yX6_isDuty cX6_isDuty 2 (some .boolean) :: ([.fieldLink RX6 72 "CellDaysModel" "duties" "I", .methodLink RX6 60 yX6_in, .static yX6_in, .initialized RX6, .code yX6_in cX6_in 3 (some .boolean)] ++ wsX60)
def wsX6_duty : List Cond := .code yX6_duty cX6_duty 7 (some .int) :: ([.fieldLink RX6 57 "CellDaysModel" "thrown" "I", .fieldLink RX6 72 "CellDaysModel" "duties" "I", .fieldLink RX6 23 "CellDaysModel" "kind" "[I", .fieldLink RX6 26 "CellDaysModel" "load" "[I", .fieldLink RX6 29 "CellDaysModel" "times" "[I", .fieldLink RX6 32 "CellDaysModel" "peak" "[I", .fieldLink RX6 35 "CellDaysModel" "tries" "[I", .fieldLink RX6 38 "CellDaysModel" "worth" "[I", .fieldLink RX6 41 "CellDaysModel" "isOn" "[Z", .methodLink RX6 60 yX6_in, .static yX6_in, .initialized RX6, .code yX6_in cX6_in 3 (some .boolean)] ++ wsX60)
def wsX6_on : List Cond := .code yX6_on cX6_on 4 (some .int) :: ([.fieldLink RX6 57 "CellDaysModel" "thrown" "I", .fieldLink RX6 41 "CellDaysModel" "isOn" "[Z", .methodLink RX6 75 yX6_isDuty, .instanceMethod yX6_isDuty, .selects RX6 yX6_isDuty yX6_isDuty, .initialized RX6, .code yX6_isDuty cX6_isDuty 2 (some .boolean), .fieldLink RX6 72 "CellDaysModel" "duties" "I", .methodLink RX6 60 yX6_in, .static yX6_in, .code yX6_in cX6_in 3 (some .boolean)] ++ wsX60)
def wsX6_drop : List Cond := .code yX6_drop cX6_drop 1 (some .int) :: ([.fieldLink RX6 57 "CellDaysModel" "thrown" "I", .fieldLink RX6 72 "CellDaysModel" "duties" "I"] ++ wsX60)
def wsX6_drainOf : List Cond := .code yX6_drainOf cX6_drainOf 4 (some .int) :: ([.fieldLink RX6 26 "CellDaysModel" "load" "[I", .fieldLink RX6 29 "CellDaysModel" "times" "[I", .fieldLink RX6 23 "CellDaysModel" "kind" "[I", .fieldLink RX6 32 "CellDaysModel" "peak" "[I", .fieldLink RX6 7 "CellDaysModel" "rules" "[I", .fieldLink RX6 35 "CellDaysModel" "tries" "[I"] ++ wsX60)
def wsX6_drain : List Cond := .code yX6_drain cX6_drain 3 (some .int) :: ([.fieldLink RX6 57 "CellDaysModel" "thrown" "I", .fieldLink RX6 23 "CellDaysModel" "kind" "[I", .fieldLink RX6 35 "CellDaysModel" "tries" "[I", .fieldLink RX6 78 "CellDaysModel" "trace" "J", .constantLong RX6 82 (11), .constantLong RX6 84 (111), .methodLink RX6 75 yX6_isDuty, .instanceMethod yX6_isDuty, .selects RX6 yX6_isDuty yX6_isDuty, .initialized RX6, .code yX6_isDuty cX6_isDuty 2 (some .boolean), .fieldLink RX6 72 "CellDaysModel" "duties" "I", .methodLink RX6 60 yX6_in, .static yX6_in, .code yX6_in cX6_in 3 (some .boolean), .methodLink RX6 86 yX6_drainOf, .instanceMethod yX6_drainOf, .selects RX6 yX6_drainOf yX6_drainOf, .code yX6_drainOf cX6_drainOf 4 (some .int), .fieldLink RX6 26 "CellDaysModel" "load" "[I", .fieldLink RX6 29 "CellDaysModel" "times" "[I", .fieldLink RX6 32 "CellDaysModel" "peak" "[I", .fieldLink RX6 7 "CellDaysModel" "rules" "[I"] ++ wsX60)
def wsX6_bits : List Cond := .code yX6_bits cX6_bits 3 (some .int) :: ([.fieldLink RX6 72 "CellDaysModel" "duties" "I", .fieldLink RX6 41 "CellDaysModel" "isOn" "[Z"] ++ wsX60)
def wsX6_drains : List Cond := .code yX6_drains cX6_drains 5 (some .int) :: ([.fieldLink RX6 72 "CellDaysModel" "duties" "I", .methodLink RX6 86 yX6_drainOf, .instanceMethod yX6_drainOf, .selects RX6 yX6_drainOf yX6_drainOf, .initialized RX6, .code yX6_drainOf cX6_drainOf 4 (some .int), .fieldLink RX6 26 "CellDaysModel" "load" "[I", .fieldLink RX6 29 "CellDaysModel" "times" "[I", .fieldLink RX6 23 "CellDaysModel" "kind" "[I", .fieldLink RX6 32 "CellDaysModel" "peak" "[I", .fieldLink RX6 7 "CellDaysModel" "rules" "[I", .fieldLink RX6 35 "CellDaysModel" "tries" "[I"] ++ wsX60)
def wsX6_up : List Cond := .code yX6_up cX6_up 2 (some .int) :: ([])
def wsX6_behind : List Cond := .code yX6_behind cX6_behind 5 (some .int) :: ([.methodLink RX6 90 yX6_up, .static yX6_up, .initialized RX6, .code yX6_up cX6_up 2 (some .int), .methodLink RX6 68 yX6_shareOf, .instanceMethod yX6_shareOf, .selects RX6 yX6_shareOf yX6_shareOf, .code yX6_shareOf cX6_shareOf 2 (some .int), .fieldLink RX6 13 "CellDaysModel" "shares" "[I", .fieldLink RX6 20 "CellDaysModel" "season" "[I", .fieldLink RX6 16 "CellDaysModel" "seasons" "I"] ++ wsX60)
def wsX6_lifeOf_r1 : List Cond := [Cond.fieldLink RX6 7 "CellDaysModel" "rules" "[I", Cond.methodLink RX6 93 yX6_drains, Cond.instanceMethod yX6_drains, Cond.selects RX6 yX6_drains yX6_drains, Cond.initialized RX6, Cond.code yX6_drains cX6_drains 5 (some .int), Cond.fieldLink RX6 72 "CellDaysModel" "duties" "I", Cond.methodLink RX6 86 yX6_drainOf, Cond.instanceMethod yX6_drainOf, Cond.selects RX6 yX6_drainOf yX6_drainOf, Cond.code yX6_drainOf cX6_drainOf 4 (some .int), Cond.fieldLink RX6 26 "CellDaysModel" "load" "[I", Cond.fieldLink RX6 29 "CellDaysModel" "times" "[I", Cond.fieldLink RX6 23 "CellDaysModel" "kind" "[I", Cond.fieldLink RX6 32 "CellDaysModel" "peak" "[I", Cond.fieldLink RX6 35 "CellDaysModel" "tries" "[I", Cond.methodLink RX6 96 yX6_behind, Cond.instanceMethod yX6_behind, Cond.selects RX6 yX6_behind yX6_behind, Cond.code yX6_behind cX6_behind 5 (some .int), Cond.methodLink RX6 90 yX6_up, Cond.static yX6_up, Cond.code yX6_up cX6_up 2 (some .int), Cond.methodLink RX6 68 yX6_shareOf]
def wsX6_lifeOf_r2 : List Cond := [Cond.instanceMethod yX6_shareOf, Cond.selects RX6 yX6_shareOf yX6_shareOf, Cond.code yX6_shareOf cX6_shareOf 2 (some .int), Cond.fieldLink RX6 13 "CellDaysModel" "shares" "[I", Cond.fieldLink RX6 20 "CellDaysModel" "season" "[I", Cond.fieldLink RX6 16 "CellDaysModel" "seasons" "I"]
def wsX6_lifeOf : List Cond := .code yX6_lifeOf cX6_lifeOf 7 (some .int) :: ((wsX6_lifeOf_r1 ++ wsX6_lifeOf_r2) ++ wsX60)
def wsX6_isTries : List Cond := .code yX6_isTries cX6_isTries 1 (some .boolean) :: ([.methodLink RX6 60 yX6_in, .static yX6_in, .initialized RX6, .code yX6_in cX6_in 3 (some .boolean)])
def wsX6_life_r1 : List Cond := [Cond.fieldLink RX6 57 "CellDaysModel" "thrown" "I", Cond.methodLink RX6 100 yX6_isTries, Cond.static yX6_isTries, Cond.initialized RX6, Cond.code yX6_isTries cX6_isTries 1 (some .boolean), Cond.methodLink RX6 60 yX6_in, Cond.static yX6_in, Cond.code yX6_in cX6_in 3 (some .boolean), Cond.methodLink RX6 103 yX6_bits, Cond.instanceMethod yX6_bits, Cond.selects RX6 yX6_bits yX6_bits, Cond.code yX6_bits cX6_bits 3 (some .int), Cond.fieldLink RX6 72 "CellDaysModel" "duties" "I", Cond.fieldLink RX6 41 "CellDaysModel" "isOn" "[Z", Cond.methodLink RX6 107 yX6_lifeOf, Cond.instanceMethod yX6_lifeOf, Cond.selects RX6 yX6_lifeOf yX6_lifeOf, Cond.code yX6_lifeOf cX6_lifeOf 7 (some .int), Cond.fieldLink RX6 7 "CellDaysModel" "rules" "[I", Cond.methodLink RX6 93 yX6_drains, Cond.instanceMethod yX6_drains, Cond.selects RX6 yX6_drains yX6_drains, Cond.code yX6_drains cX6_drains 5 (some .int), Cond.methodLink RX6 86 yX6_drainOf]
def wsX6_life_r2 : List Cond := [Cond.instanceMethod yX6_drainOf, Cond.selects RX6 yX6_drainOf yX6_drainOf, Cond.code yX6_drainOf cX6_drainOf 4 (some .int), Cond.fieldLink RX6 26 "CellDaysModel" "load" "[I", Cond.fieldLink RX6 29 "CellDaysModel" "times" "[I", Cond.fieldLink RX6 23 "CellDaysModel" "kind" "[I", Cond.fieldLink RX6 32 "CellDaysModel" "peak" "[I", Cond.fieldLink RX6 35 "CellDaysModel" "tries" "[I", Cond.methodLink RX6 96 yX6_behind, Cond.instanceMethod yX6_behind, Cond.selects RX6 yX6_behind yX6_behind, Cond.code yX6_behind cX6_behind 5 (some .int), Cond.methodLink RX6 90 yX6_up, Cond.static yX6_up, Cond.code yX6_up cX6_up 2 (some .int), Cond.methodLink RX6 68 yX6_shareOf, Cond.instanceMethod yX6_shareOf, Cond.selects RX6 yX6_shareOf yX6_shareOf, Cond.code yX6_shareOf cX6_shareOf 2 (some .int), Cond.fieldLink RX6 13 "CellDaysModel" "shares" "[I", Cond.fieldLink RX6 20 "CellDaysModel" "season" "[I", Cond.fieldLink RX6 16 "CellDaysModel" "seasons" "I"]
def wsX6_life : List Cond := .code yX6_life cX6_life 2 (some .int) :: ((wsX6_life_r1 ++ wsX6_life_r2) ++ wsX60)
def wsX6_charge_r1 : List Cond := [Cond.fieldLink RX6 57 "CellDaysModel" "thrown" "I", Cond.fieldLink RX6 7 "CellDaysModel" "rules" "[I", Cond.methodLink RX6 64 yX6_isDay, Cond.static yX6_isDay, Cond.initialized RX6, Cond.code yX6_isDay cX6_isDay 1 (some .boolean), Cond.methodLink RX6 60 yX6_in, Cond.static yX6_in, Cond.code yX6_in cX6_in 3 (some .boolean), Cond.methodLink RX6 100 yX6_isTries, Cond.static yX6_isTries, Cond.code yX6_isTries cX6_isTries 1 (some .boolean), Cond.methodLink RX6 103 yX6_bits, Cond.instanceMethod yX6_bits, Cond.selects RX6 yX6_bits yX6_bits, Cond.code yX6_bits cX6_bits 3 (some .int), Cond.fieldLink RX6 72 "CellDaysModel" "duties" "I", Cond.fieldLink RX6 41 "CellDaysModel" "isOn" "[Z", Cond.methodLink RX6 93 yX6_drains, Cond.instanceMethod yX6_drains, Cond.selects RX6 yX6_drains yX6_drains, Cond.code yX6_drains cX6_drains 5 (some .int), Cond.methodLink RX6 86 yX6_drainOf, Cond.instanceMethod yX6_drainOf]
def wsX6_charge_r2 : List Cond := [Cond.selects RX6 yX6_drainOf yX6_drainOf, Cond.code yX6_drainOf cX6_drainOf 4 (some .int), Cond.fieldLink RX6 26 "CellDaysModel" "load" "[I", Cond.fieldLink RX6 29 "CellDaysModel" "times" "[I", Cond.fieldLink RX6 23 "CellDaysModel" "kind" "[I", Cond.fieldLink RX6 32 "CellDaysModel" "peak" "[I", Cond.fieldLink RX6 35 "CellDaysModel" "tries" "[I", Cond.methodLink RX6 96 yX6_behind, Cond.instanceMethod yX6_behind, Cond.selects RX6 yX6_behind yX6_behind, Cond.code yX6_behind cX6_behind 5 (some .int), Cond.methodLink RX6 90 yX6_up, Cond.static yX6_up, Cond.code yX6_up cX6_up 2 (some .int), Cond.methodLink RX6 68 yX6_shareOf, Cond.instanceMethod yX6_shareOf, Cond.selects RX6 yX6_shareOf yX6_shareOf, Cond.code yX6_shareOf cX6_shareOf 2 (some .int), Cond.fieldLink RX6 13 "CellDaysModel" "shares" "[I", Cond.fieldLink RX6 20 "CellDaysModel" "season" "[I", Cond.fieldLink RX6 16 "CellDaysModel" "seasons" "I"]
def wsX6_charge : List Cond := .code yX6_charge cX6_charge 6 (some .int) :: ((wsX6_charge_r1 ++ wsX6_charge_r2) ++ wsX60)
def wsX6_price_r1 : List Cond := [Cond.fieldLink RX6 57 "CellDaysModel" "thrown" "I", Cond.methodLink RX6 75 yX6_isDuty, Cond.instanceMethod yX6_isDuty, Cond.selects RX6 yX6_isDuty yX6_isDuty, Cond.initialized RX6, Cond.code yX6_isDuty cX6_isDuty 2 (some .boolean), Cond.fieldLink RX6 72 "CellDaysModel" "duties" "I", Cond.methodLink RX6 60 yX6_in, Cond.static yX6_in, Cond.code yX6_in cX6_in 3 (some .boolean), Cond.methodLink RX6 103 yX6_bits, Cond.instanceMethod yX6_bits, Cond.selects RX6 yX6_bits yX6_bits, Cond.code yX6_bits cX6_bits 3 (some .int), Cond.fieldLink RX6 41 "CellDaysModel" "isOn" "[Z", Cond.methodLink RX6 107 yX6_lifeOf, Cond.instanceMethod yX6_lifeOf, Cond.selects RX6 yX6_lifeOf yX6_lifeOf, Cond.code yX6_lifeOf cX6_lifeOf 7 (some .int), Cond.fieldLink RX6 7 "CellDaysModel" "rules" "[I", Cond.methodLink RX6 93 yX6_drains, Cond.instanceMethod yX6_drains, Cond.selects RX6 yX6_drains yX6_drains, Cond.code yX6_drains cX6_drains 5 (some .int)]
def wsX6_price_r2 : List Cond := [Cond.methodLink RX6 86 yX6_drainOf, Cond.instanceMethod yX6_drainOf, Cond.selects RX6 yX6_drainOf yX6_drainOf, Cond.code yX6_drainOf cX6_drainOf 4 (some .int), Cond.fieldLink RX6 26 "CellDaysModel" "load" "[I", Cond.fieldLink RX6 29 "CellDaysModel" "times" "[I", Cond.fieldLink RX6 23 "CellDaysModel" "kind" "[I", Cond.fieldLink RX6 32 "CellDaysModel" "peak" "[I", Cond.fieldLink RX6 35 "CellDaysModel" "tries" "[I", Cond.methodLink RX6 96 yX6_behind, Cond.instanceMethod yX6_behind, Cond.selects RX6 yX6_behind yX6_behind, Cond.code yX6_behind cX6_behind 5 (some .int), Cond.methodLink RX6 90 yX6_up, Cond.static yX6_up, Cond.code yX6_up cX6_up 2 (some .int), Cond.methodLink RX6 68 yX6_shareOf, Cond.instanceMethod yX6_shareOf, Cond.selects RX6 yX6_shareOf yX6_shareOf, Cond.code yX6_shareOf cX6_shareOf 2 (some .int), Cond.fieldLink RX6 13 "CellDaysModel" "shares" "[I", Cond.fieldLink RX6 20 "CellDaysModel" "season" "[I", Cond.fieldLink RX6 16 "CellDaysModel" "seasons" "I"]
def wsX6_price : List Cond := .code yX6_price cX6_price 3 (some .int) :: ((wsX6_price_r1 ++ wsX6_price_r2) ++ wsX60)
def wsX6_worthOf : List Cond := .code yX6_worthOf cX6_worthOf 4 (some .int) :: ([.fieldLink RX6 72 "CellDaysModel" "duties" "I", .fieldLink RX6 38 "CellDaysModel" "worth" "[I"] ++ wsX60)
def wsX6_plan_r1 : List Cond := [Cond.fieldLink RX6 57 "CellDaysModel" "thrown" "I", Cond.fieldLink RX6 72 "CellDaysModel" "duties" "I", Cond.methodLink RX6 60 yX6_in, Cond.static yX6_in, Cond.initialized RX6, Cond.code yX6_in cX6_in 3 (some .boolean), Cond.methodLink RX6 111 yX6_worthOf, Cond.instanceMethod yX6_worthOf, Cond.selects RX6 yX6_worthOf yX6_worthOf, Cond.code yX6_worthOf cX6_worthOf 4 (some .int), Cond.fieldLink RX6 38 "CellDaysModel" "worth" "[I", Cond.methodLink RX6 107 yX6_lifeOf, Cond.instanceMethod yX6_lifeOf, Cond.selects RX6 yX6_lifeOf yX6_lifeOf, Cond.code yX6_lifeOf cX6_lifeOf 7 (some .int), Cond.fieldLink RX6 7 "CellDaysModel" "rules" "[I", Cond.methodLink RX6 93 yX6_drains, Cond.instanceMethod yX6_drains, Cond.selects RX6 yX6_drains yX6_drains, Cond.code yX6_drains cX6_drains 5 (some .int), Cond.methodLink RX6 86 yX6_drainOf, Cond.instanceMethod yX6_drainOf, Cond.selects RX6 yX6_drainOf yX6_drainOf, Cond.code yX6_drainOf cX6_drainOf 4 (some .int)]
def wsX6_plan_r2 : List Cond := [Cond.fieldLink RX6 26 "CellDaysModel" "load" "[I", Cond.fieldLink RX6 29 "CellDaysModel" "times" "[I", Cond.fieldLink RX6 23 "CellDaysModel" "kind" "[I", Cond.fieldLink RX6 32 "CellDaysModel" "peak" "[I", Cond.fieldLink RX6 35 "CellDaysModel" "tries" "[I", Cond.methodLink RX6 96 yX6_behind, Cond.instanceMethod yX6_behind, Cond.selects RX6 yX6_behind yX6_behind, Cond.code yX6_behind cX6_behind 5 (some .int), Cond.methodLink RX6 90 yX6_up, Cond.static yX6_up, Cond.code yX6_up cX6_up 2 (some .int), Cond.methodLink RX6 68 yX6_shareOf, Cond.instanceMethod yX6_shareOf, Cond.selects RX6 yX6_shareOf yX6_shareOf, Cond.code yX6_shareOf cX6_shareOf 2 (some .int), Cond.fieldLink RX6 13 "CellDaysModel" "shares" "[I", Cond.fieldLink RX6 20 "CellDaysModel" "season" "[I", Cond.fieldLink RX6 16 "CellDaysModel" "seasons" "I"]
def wsX6_plan : List Cond := .code yX6_plan cX6_plan 5 (some .int) :: ((wsX6_plan_r1 ++ wsX6_plan_r2) ++ wsX60)
def wsX6_sign : List Cond := .code yX6_sign cX6_sign 3 (some .int) :: ([.fieldLink RX6 57 "CellDaysModel" "thrown" "I", .fieldLink RX6 114 "CellDaysModel" "signs" "I", .fieldLink RX6 45 "CellDaysModel" "signDay" "[I", .fieldLink RX6 48 "CellDaysModel" "signLevel" "[I", .methodLink RX6 64 yX6_isDay, .static yX6_isDay, .initialized RX6, .code yX6_isDay cX6_isDay 1 (some .boolean), .methodLink RX6 60 yX6_in, .static yX6_in, .code yX6_in cX6_in 3 (some .boolean)] ++ wsX60)
def wsX6_forget : List Cond := .code yX6_forget cX6_forget 1 (some .int) :: ([.fieldLink RX6 57 "CellDaysModel" "thrown" "I", .fieldLink RX6 114 "CellDaysModel" "signs" "I"] ++ wsX60)
def wsX6_empties_r1 : List Cond := [Cond.fieldLink RX6 7 "CellDaysModel" "rules" "[I", Cond.fieldLink RX6 51 "CellDaysModel" "levels" "[I", Cond.methodLink RX6 103 yX6_bits, Cond.instanceMethod yX6_bits, Cond.selects RX6 yX6_bits yX6_bits, Cond.initialized RX6, Cond.code yX6_bits cX6_bits 3 (some .int), Cond.fieldLink RX6 72 "CellDaysModel" "duties" "I", Cond.fieldLink RX6 41 "CellDaysModel" "isOn" "[Z", Cond.methodLink RX6 93 yX6_drains, Cond.instanceMethod yX6_drains, Cond.selects RX6 yX6_drains yX6_drains, Cond.code yX6_drains cX6_drains 5 (some .int), Cond.methodLink RX6 86 yX6_drainOf, Cond.instanceMethod yX6_drainOf, Cond.selects RX6 yX6_drainOf yX6_drainOf, Cond.code yX6_drainOf cX6_drainOf 4 (some .int), Cond.fieldLink RX6 26 "CellDaysModel" "load" "[I", Cond.fieldLink RX6 29 "CellDaysModel" "times" "[I", Cond.fieldLink RX6 23 "CellDaysModel" "kind" "[I", Cond.fieldLink RX6 32 "CellDaysModel" "peak" "[I", Cond.fieldLink RX6 35 "CellDaysModel" "tries" "[I", Cond.methodLink RX6 96 yX6_behind, Cond.instanceMethod yX6_behind]
def wsX6_empties_r2 : List Cond := [Cond.selects RX6 yX6_behind yX6_behind, Cond.code yX6_behind cX6_behind 5 (some .int), Cond.methodLink RX6 90 yX6_up, Cond.static yX6_up, Cond.code yX6_up cX6_up 2 (some .int), Cond.methodLink RX6 68 yX6_shareOf, Cond.instanceMethod yX6_shareOf, Cond.selects RX6 yX6_shareOf yX6_shareOf, Cond.code yX6_shareOf cX6_shareOf 2 (some .int), Cond.fieldLink RX6 13 "CellDaysModel" "shares" "[I", Cond.fieldLink RX6 20 "CellDaysModel" "season" "[I", Cond.fieldLink RX6 16 "CellDaysModel" "seasons" "I"]
def wsX6_empties : List Cond := .code yX6_empties cX6_empties 8 none :: ((wsX6_empties_r1 ++ wsX6_empties_r2) ++ wsX60)
def wsX6_isCase : List Cond := .code yX6_isCase cX6_isCase 1 (some .boolean) :: ([.methodLink RX6 60 yX6_in, .static yX6_in, .initialized RX6, .code yX6_in cX6_in 3 (some .boolean)])
def wsX6_level_r1 : List Cond := [Cond.fieldLink RX6 57 "CellDaysModel" "thrown" "I", Cond.fieldLink RX6 51 "CellDaysModel" "levels" "[I", Cond.methodLink RX6 117 yX6_isCase, Cond.static yX6_isCase, Cond.initialized RX6, Cond.code yX6_isCase cX6_isCase 1 (some .boolean), Cond.methodLink RX6 60 yX6_in, Cond.static yX6_in, Cond.code yX6_in cX6_in 3 (some .boolean), Cond.methodLink RX6 64 yX6_isDay, Cond.static yX6_isDay, Cond.code yX6_isDay cX6_isDay 1 (some .boolean), Cond.methodLink RX6 120 yX6_empties, Cond.instanceMethod yX6_empties, Cond.selects RX6 yX6_empties yX6_empties, Cond.code yX6_empties cX6_empties 8 none, Cond.fieldLink RX6 7 "CellDaysModel" "rules" "[I", Cond.methodLink RX6 103 yX6_bits, Cond.instanceMethod yX6_bits, Cond.selects RX6 yX6_bits yX6_bits, Cond.code yX6_bits cX6_bits 3 (some .int), Cond.fieldLink RX6 72 "CellDaysModel" "duties" "I", Cond.fieldLink RX6 41 "CellDaysModel" "isOn" "[Z", Cond.methodLink RX6 93 yX6_drains]
def wsX6_level_r2 : List Cond := [Cond.instanceMethod yX6_drains, Cond.selects RX6 yX6_drains yX6_drains, Cond.code yX6_drains cX6_drains 5 (some .int), Cond.methodLink RX6 86 yX6_drainOf, Cond.instanceMethod yX6_drainOf, Cond.selects RX6 yX6_drainOf yX6_drainOf, Cond.code yX6_drainOf cX6_drainOf 4 (some .int), Cond.fieldLink RX6 26 "CellDaysModel" "load" "[I", Cond.fieldLink RX6 29 "CellDaysModel" "times" "[I", Cond.fieldLink RX6 23 "CellDaysModel" "kind" "[I", Cond.fieldLink RX6 32 "CellDaysModel" "peak" "[I", Cond.fieldLink RX6 35 "CellDaysModel" "tries" "[I", Cond.methodLink RX6 96 yX6_behind, Cond.instanceMethod yX6_behind, Cond.selects RX6 yX6_behind yX6_behind, Cond.code yX6_behind cX6_behind 5 (some .int), Cond.methodLink RX6 90 yX6_up, Cond.static yX6_up, Cond.code yX6_up cX6_up 2 (some .int), Cond.methodLink RX6 68 yX6_shareOf, Cond.instanceMethod yX6_shareOf, Cond.selects RX6 yX6_shareOf yX6_shareOf, Cond.code yX6_shareOf cX6_shareOf 2 (some .int), Cond.fieldLink RX6 13 "CellDaysModel" "shares" "[I"]
def wsX6_level_r3 : List Cond := [Cond.fieldLink RX6 20 "CellDaysModel" "season" "[I", Cond.fieldLink RX6 16 "CellDaysModel" "seasons" "I"]
def wsX6_level : List Cond := .code yX6_level cX6_level 3 (some .int) :: ((wsX6_level_r1 ++ (wsX6_level_r2 ++ wsX6_level_r3)) ++ wsX60)
def wsX6_isAgreeing_r1 : List Cond := [Cond.fieldLink RX6 114 "CellDaysModel" "signs" "I", Cond.fieldLink RX6 51 "CellDaysModel" "levels" "[I", Cond.fieldLink RX6 45 "CellDaysModel" "signDay" "[I", Cond.fieldLink RX6 48 "CellDaysModel" "signLevel" "[I", Cond.methodLink RX6 120 yX6_empties, Cond.instanceMethod yX6_empties, Cond.selects RX6 yX6_empties yX6_empties, Cond.initialized RX6, Cond.code yX6_empties cX6_empties 8 none, Cond.fieldLink RX6 7 "CellDaysModel" "rules" "[I", Cond.methodLink RX6 103 yX6_bits, Cond.instanceMethod yX6_bits, Cond.selects RX6 yX6_bits yX6_bits, Cond.code yX6_bits cX6_bits 3 (some .int), Cond.fieldLink RX6 72 "CellDaysModel" "duties" "I", Cond.fieldLink RX6 41 "CellDaysModel" "isOn" "[Z", Cond.methodLink RX6 93 yX6_drains, Cond.instanceMethod yX6_drains, Cond.selects RX6 yX6_drains yX6_drains, Cond.code yX6_drains cX6_drains 5 (some .int), Cond.methodLink RX6 86 yX6_drainOf, Cond.instanceMethod yX6_drainOf, Cond.selects RX6 yX6_drainOf yX6_drainOf, Cond.code yX6_drainOf cX6_drainOf 4 (some .int)]
def wsX6_isAgreeing_r2 : List Cond := [Cond.fieldLink RX6 26 "CellDaysModel" "load" "[I", Cond.fieldLink RX6 29 "CellDaysModel" "times" "[I", Cond.fieldLink RX6 23 "CellDaysModel" "kind" "[I", Cond.fieldLink RX6 32 "CellDaysModel" "peak" "[I", Cond.fieldLink RX6 35 "CellDaysModel" "tries" "[I", Cond.methodLink RX6 96 yX6_behind, Cond.instanceMethod yX6_behind, Cond.selects RX6 yX6_behind yX6_behind, Cond.code yX6_behind cX6_behind 5 (some .int), Cond.methodLink RX6 90 yX6_up, Cond.static yX6_up, Cond.code yX6_up cX6_up 2 (some .int), Cond.methodLink RX6 68 yX6_shareOf, Cond.instanceMethod yX6_shareOf, Cond.selects RX6 yX6_shareOf yX6_shareOf, Cond.code yX6_shareOf cX6_shareOf 2 (some .int), Cond.fieldLink RX6 13 "CellDaysModel" "shares" "[I", Cond.fieldLink RX6 20 "CellDaysModel" "season" "[I", Cond.fieldLink RX6 16 "CellDaysModel" "seasons" "I"]
def wsX6_isAgreeing : List Cond := .code yX6_isAgreeing cX6_isAgreeing 4 (some .boolean) :: ((wsX6_isAgreeing_r1 ++ wsX6_isAgreeing_r2) ++ wsX60)
def wsX6_agrees_r1 : List Cond := [Cond.fieldLink RX6 57 "CellDaysModel" "thrown" "I", Cond.methodLink RX6 117 yX6_isCase, Cond.static yX6_isCase, Cond.initialized RX6, Cond.code yX6_isCase cX6_isCase 1 (some .boolean), Cond.methodLink RX6 60 yX6_in, Cond.static yX6_in, Cond.code yX6_in cX6_in 3 (some .boolean), Cond.methodLink RX6 124 yX6_isAgreeing, Cond.instanceMethod yX6_isAgreeing, Cond.selects RX6 yX6_isAgreeing yX6_isAgreeing, Cond.code yX6_isAgreeing cX6_isAgreeing 4 (some .boolean), Cond.fieldLink RX6 114 "CellDaysModel" "signs" "I", Cond.fieldLink RX6 51 "CellDaysModel" "levels" "[I", Cond.fieldLink RX6 45 "CellDaysModel" "signDay" "[I", Cond.fieldLink RX6 48 "CellDaysModel" "signLevel" "[I", Cond.methodLink RX6 120 yX6_empties, Cond.instanceMethod yX6_empties, Cond.selects RX6 yX6_empties yX6_empties, Cond.code yX6_empties cX6_empties 8 none, Cond.fieldLink RX6 7 "CellDaysModel" "rules" "[I", Cond.methodLink RX6 103 yX6_bits, Cond.instanceMethod yX6_bits, Cond.selects RX6 yX6_bits yX6_bits]
def wsX6_agrees_r2 : List Cond := [Cond.code yX6_bits cX6_bits 3 (some .int), Cond.fieldLink RX6 72 "CellDaysModel" "duties" "I", Cond.fieldLink RX6 41 "CellDaysModel" "isOn" "[Z", Cond.methodLink RX6 93 yX6_drains, Cond.instanceMethod yX6_drains, Cond.selects RX6 yX6_drains yX6_drains, Cond.code yX6_drains cX6_drains 5 (some .int), Cond.methodLink RX6 86 yX6_drainOf, Cond.instanceMethod yX6_drainOf, Cond.selects RX6 yX6_drainOf yX6_drainOf, Cond.code yX6_drainOf cX6_drainOf 4 (some .int), Cond.fieldLink RX6 26 "CellDaysModel" "load" "[I", Cond.fieldLink RX6 29 "CellDaysModel" "times" "[I", Cond.fieldLink RX6 23 "CellDaysModel" "kind" "[I", Cond.fieldLink RX6 32 "CellDaysModel" "peak" "[I", Cond.fieldLink RX6 35 "CellDaysModel" "tries" "[I", Cond.methodLink RX6 96 yX6_behind, Cond.instanceMethod yX6_behind, Cond.selects RX6 yX6_behind yX6_behind, Cond.code yX6_behind cX6_behind 5 (some .int), Cond.methodLink RX6 90 yX6_up, Cond.static yX6_up, Cond.code yX6_up cX6_up 2 (some .int), Cond.methodLink RX6 68 yX6_shareOf]
def wsX6_agrees_r3 : List Cond := [Cond.instanceMethod yX6_shareOf, Cond.selects RX6 yX6_shareOf yX6_shareOf, Cond.code yX6_shareOf cX6_shareOf 2 (some .int), Cond.fieldLink RX6 13 "CellDaysModel" "shares" "[I", Cond.fieldLink RX6 20 "CellDaysModel" "season" "[I", Cond.fieldLink RX6 16 "CellDaysModel" "seasons" "I"]
def wsX6_agrees : List Cond := .code yX6_agrees cX6_agrees 2 (some .int) :: ((wsX6_agrees_r1 ++ (wsX6_agrees_r2 ++ wsX6_agrees_r3)) ++ wsX60)
def wsX6_field_r1 : List Cond := [Cond.fieldLink RX6 57 "CellDaysModel" "thrown" "I", Cond.fieldLink RX6 54 "CellDaysModel" "met" "[I", Cond.fieldLink RX6 51 "CellDaysModel" "levels" "[I", Cond.methodLink RX6 60 yX6_in, Cond.static yX6_in, Cond.initialized RX6, Cond.code yX6_in cX6_in 3 (some .boolean), Cond.methodLink RX6 124 yX6_isAgreeing, Cond.instanceMethod yX6_isAgreeing, Cond.selects RX6 yX6_isAgreeing yX6_isAgreeing, Cond.code yX6_isAgreeing cX6_isAgreeing 4 (some .boolean), Cond.fieldLink RX6 114 "CellDaysModel" "signs" "I", Cond.fieldLink RX6 45 "CellDaysModel" "signDay" "[I", Cond.fieldLink RX6 48 "CellDaysModel" "signLevel" "[I", Cond.methodLink RX6 120 yX6_empties, Cond.instanceMethod yX6_empties, Cond.selects RX6 yX6_empties yX6_empties, Cond.code yX6_empties cX6_empties 8 none, Cond.fieldLink RX6 7 "CellDaysModel" "rules" "[I", Cond.methodLink RX6 103 yX6_bits, Cond.instanceMethod yX6_bits, Cond.selects RX6 yX6_bits yX6_bits, Cond.code yX6_bits cX6_bits 3 (some .int), Cond.fieldLink RX6 72 "CellDaysModel" "duties" "I"]
def wsX6_field_r2 : List Cond := [Cond.fieldLink RX6 41 "CellDaysModel" "isOn" "[Z", Cond.methodLink RX6 93 yX6_drains, Cond.instanceMethod yX6_drains, Cond.selects RX6 yX6_drains yX6_drains, Cond.code yX6_drains cX6_drains 5 (some .int), Cond.methodLink RX6 86 yX6_drainOf, Cond.instanceMethod yX6_drainOf, Cond.selects RX6 yX6_drainOf yX6_drainOf, Cond.code yX6_drainOf cX6_drainOf 4 (some .int), Cond.fieldLink RX6 26 "CellDaysModel" "load" "[I", Cond.fieldLink RX6 29 "CellDaysModel" "times" "[I", Cond.fieldLink RX6 23 "CellDaysModel" "kind" "[I", Cond.fieldLink RX6 32 "CellDaysModel" "peak" "[I", Cond.fieldLink RX6 35 "CellDaysModel" "tries" "[I", Cond.methodLink RX6 96 yX6_behind, Cond.instanceMethod yX6_behind, Cond.selects RX6 yX6_behind yX6_behind, Cond.code yX6_behind cX6_behind 5 (some .int), Cond.methodLink RX6 90 yX6_up, Cond.static yX6_up, Cond.code yX6_up cX6_up 2 (some .int), Cond.methodLink RX6 68 yX6_shareOf, Cond.instanceMethod yX6_shareOf, Cond.selects RX6 yX6_shareOf yX6_shareOf]
def wsX6_field_r3 : List Cond := [Cond.code yX6_shareOf cX6_shareOf 2 (some .int), Cond.fieldLink RX6 13 "CellDaysModel" "shares" "[I", Cond.fieldLink RX6 20 "CellDaysModel" "season" "[I", Cond.fieldLink RX6 16 "CellDaysModel" "seasons" "I"]
def wsX6_field : List Cond := .code yX6_field cX6_field 10 (some .int) :: ((wsX6_field_r1 ++ (wsX6_field_r2 ++ wsX6_field_r3)) ++ wsX60)
def wsX6_count : List Cond := .code yX6_count cX6_count 4 (some .int) :: ([.fieldLink RX6 57 "CellDaysModel" "thrown" "I", .fieldLink RX6 72 "CellDaysModel" "duties" "I", .fieldLink RX6 41 "CellDaysModel" "isOn" "[Z", .fieldLink RX6 114 "CellDaysModel" "signs" "I", .fieldLink RX6 7 "CellDaysModel" "rules" "[I", .methodLink RX6 60 yX6_in, .static yX6_in, .initialized RX6, .code yX6_in cX6_in 3 (some .boolean)] ++ wsX60)
def wsX6_trace : List Cond := .code yX6_trace cX6_trace 1 (some .long) :: ([.fieldLink RX6 57 "CellDaysModel" "thrown" "I", .fieldLink RX6 78 "CellDaysModel" "trace" "J"] ++ wsX60)
def wsJ9_max_7cf53 : List Cond := .code yJ9_max_7cf53 cJ9_max_7cf53 2 (some .int) :: ([])
def wsJ9_min_7cf53 : List Cond := .code yJ9_min_7cf53 cJ9_min_7cf53 2 (some .int) :: ([])
def wsL_law_r1 : List Cond := [Cond.classLink RL 7 RX5, Cond.instantiable RX5 5, Cond.initialized RX5, Cond.classLink RL 10 RX6, Cond.instantiable RX6 19, Cond.initialized RX6, Cond.methodLink RL 9 yX5_init, Cond.instanceMethod yX5_init, Cond.code yX5_init cX5_init 1 none, Cond.methodLink RX5 1 objectInit, Cond.instanceMethod objectInit, Cond.code objectInit ⟨#[0xb1]⟩ 1 none, Cond.classLink RX5 7 RX1, Cond.instantiable RX1 6, Cond.initialized RX1, Cond.fieldLink RX5 10 "CellDays" "cell" "LCellDays$Cell;", Cond.classLink RX5 16 RX2, Cond.instantiable RX2 2, Cond.initialized RX2, Cond.fieldLink RX5 19 "CellDays" "duties" "LCellDays$Duties;", Cond.classLink RX5 23 RX4, Cond.instantiable RX4 4, Cond.initialized RX4, Cond.fieldLink RX5 26 "CellDays" "signs" "LCellDays$Signs;"]
def wsL_law_r2 : List Cond := [Cond.classLink RX5 30 RX0, Cond.instantiable RX0 8, Cond.initialized RX0, Cond.fieldLink RX5 35 "CellDays" "cases" "LCellDays$Cases;", Cond.fieldLink RX5 39 "CellDays" "asked" "J", Cond.instanceMethod yX1_init, Cond.code yX1_init cX1_init 1 none, Cond.methodLink RX1 3 objectInit, Cond.arrayClass .int, Cond.fieldLink RX1 9 "CellDays$Cell" "sharesByWarmth" "[I", Cond.fieldLink RX1 15 "CellDays$Cell" "warmths" "[I", Cond.fieldLink RX1 18 "CellDays$Cell" "places" "I", Cond.fieldLink RX1 22 "CellDays$Cell" "room" "I", Cond.fieldLink RX1 25 "CellDays$Cell" "leak" "I", Cond.fieldLink RX1 28 "CellDays$Cell" "bar" "I", Cond.instanceMethod yX2_init, Cond.code yX2_init cX2_init 1 none, Cond.methodLink RX2 1 objectInit, Cond.classLink RX2 7 RX3, Cond.fieldLink RX2 9 "CellDays$Duties" "row" "[LCellDays$Duty;", Cond.fieldLink RX2 15 "CellDays$Duties" "size" "I", Cond.instanceMethod yX4_init, Cond.code yX4_init cX4_init 1 none, Cond.methodLink RX4 1 objectInit]
def wsL_law_r3 : List Cond := [Cond.fieldLink RX4 9 "CellDays$Signs" "days" "[I", Cond.fieldLink RX4 13 "CellDays$Signs" "levels" "[I", Cond.fieldLink RX4 16 "CellDays$Signs" "order" "[I", Cond.fieldLink RX4 19 "CellDays$Signs" "size" "I", Cond.methodLink RX5 32 yX0_init, Cond.instanceMethod yX0_init, Cond.code yX0_init cX0_init 4 none, Cond.methodLink RX0 5 objectInit, Cond.fieldLink RX0 11 "CellDays$Cases" "agreeing" "[I", Cond.fieldLink RX0 15 "CellDays$Cases" "loads" "[I", Cond.fieldLink RX0 18 "CellDays$Cases" "charges" "[I", Cond.fieldLink RX0 23 "CellDays$Cases" "atLevel" "[I", Cond.fieldLink RX0 26 "CellDays$Cases" "agreed" "I", Cond.fieldLink RX0 30 "CellDays$Cases" "cell" "LCellDays$Cell;", Cond.fieldLink RX0 34 "CellDays$Cases" "duties" "LCellDays$Duties;", Cond.fieldLink RX0 38 "CellDays$Cases" "signs" "LCellDays$Signs;", Cond.methodLink RL 12 yX6_init, Cond.instanceMethod yX6_init, Cond.code yX6_init cX6_init 1 none, Cond.methodLink RX6 1 objectInit, Cond.fieldLink RX6 7 "CellDaysModel" "rules" "[I", Cond.fieldLink RX6 13 "CellDaysModel" "shares" "[I", Cond.fieldLink RX6 16 "CellDaysModel" "seasons" "I", Cond.fieldLink RX6 20 "CellDaysModel" "season" "[I"]
def wsL_law_r4 : List Cond := [Cond.fieldLink RX6 23 "CellDaysModel" "kind" "[I", Cond.fieldLink RX6 26 "CellDaysModel" "load" "[I", Cond.fieldLink RX6 29 "CellDaysModel" "times" "[I", Cond.fieldLink RX6 32 "CellDaysModel" "peak" "[I", Cond.fieldLink RX6 35 "CellDaysModel" "tries" "[I", Cond.fieldLink RX6 38 "CellDaysModel" "worth" "[I", Cond.arrayClass .boolean, Cond.fieldLink RX6 41 "CellDaysModel" "isOn" "[Z", Cond.fieldLink RX6 45 "CellDaysModel" "signDay" "[I", Cond.fieldLink RX6 48 "CellDaysModel" "signLevel" "[I", Cond.fieldLink RX6 51 "CellDaysModel" "levels" "[I", Cond.fieldLink RX6 54 "CellDaysModel" "met" "[I", Cond.methodLink RL 13 yX5_set, Cond.instanceMethod yX5_set, Cond.selects RX5 yX5_set yX5_set, Cond.code yX5_set cX5_set 3 (some .int), Cond.methodLink RX5 43 yX5_within, Cond.static yX5_within, Cond.code yX5_within cX5_within 3 (some .boolean), Cond.methodLink RX5 47 yX1_changeRoom, Cond.instanceMethod yX1_changeRoom, Cond.selects RX1 yX1_changeRoom yX1_changeRoom, Cond.code yX1_changeRoom cX1_changeRoom 3 (some .int), Cond.methodLink RX5 51 yX1_changeLeak]
def wsL_law_r5 : List Cond := [Cond.instanceMethod yX1_changeLeak, Cond.selects RX1 yX1_changeLeak yX1_changeLeak, Cond.code yX1_changeLeak cX1_changeLeak 3 (some .int), Cond.methodLink RX5 54 yX1_changeBar, Cond.instanceMethod yX1_changeBar, Cond.selects RX1 yX1_changeBar yX1_changeBar, Cond.code yX1_changeBar cX1_changeBar 3 (some .int), Cond.methodLink RL 17 yX6_set, Cond.instanceMethod yX6_set, Cond.selects RX6 yX6_set yX6_set, Cond.code yX6_set cX6_set 4 (some .int), Cond.fieldLink RX6 57 "CellDaysModel" "thrown" "I", Cond.methodLink RX6 60 yX6_in, Cond.static yX6_in, Cond.code yX6_in cX6_in 3 (some .boolean), Cond.methodLink RL 18 yX5_shares, Cond.instanceMethod yX5_shares, Cond.selects RX5 yX5_shares yX5_shares, Cond.code yX5_shares cX5_shares 4 (some .int), Cond.methodLink RX5 57 yX1_changeShares, Cond.instanceMethod yX1_changeShares, Cond.selects RX1 yX1_changeShares yX1_changeShares, Cond.code yX1_changeShares cX1_changeShares 4 none, Cond.static yX5_put]
def wsL_law_r6 : List Cond := [Cond.code yX5_put cX5_put 3 none, Cond.methodLink RL 22 yX6_shares, Cond.instanceMethod yX6_shares, Cond.selects RX6 yX6_shares yX6_shares, Cond.code yX6_shares cX6_shares 4 (some .int), Cond.methodLink RL 23 yX5_season, Cond.instanceMethod yX5_season, Cond.selects RX5 yX5_season yX5_season, Cond.code yX5_season cX5_season 3 (some .int), Cond.methodLink RX5 61 yX5_powerOfThree, Cond.static yX5_powerOfThree, Cond.code yX5_powerOfThree cX5_powerOfThree 3 (some .int), Cond.methodLink RX5 64 yX1_changeSeason, Cond.instanceMethod yX1_changeSeason, Cond.selects RX1 yX1_changeSeason yX1_changeSeason, Cond.code yX1_changeSeason cX1_changeSeason 5 none, Cond.methodLink RL 26 yX6_season, Cond.instanceMethod yX6_season, Cond.selects RX6 yX6_season yX6_season, Cond.code yX6_season cX6_season 6 (some .int), Cond.methodLink RL 27 yX5_share, Cond.instanceMethod yX5_share, Cond.selects RX5 yX5_share yX5_share, Cond.code yX5_share cX5_share 2 (some .int)]
def wsL_law_r7 : List Cond := [Cond.methodLink RX5 68 yX5_isDay, Cond.static yX5_isDay, Cond.code yX5_isDay cX5_isDay 1 (some .boolean), Cond.methodLink RX5 72 yX1_shareOn, Cond.instanceMethod yX1_shareOn, Cond.selects RX1 yX1_shareOn yX1_shareOn, Cond.code yX1_shareOn cX1_shareOn 3 (some .int), Cond.static yX5_at, Cond.code yX5_at cX5_at 2 (some .int), Cond.methodLink RL 31 yX6_share, Cond.instanceMethod yX6_share, Cond.selects RX6 yX6_share yX6_share, Cond.code yX6_share cX6_share 2 (some .int), Cond.methodLink RX6 64 yX6_isDay, Cond.static yX6_isDay, Cond.code yX6_isDay cX6_isDay 1 (some .boolean), Cond.methodLink RX6 68 yX6_shareOf, Cond.instanceMethod yX6_shareOf, Cond.selects RX6 yX6_shareOf yX6_shareOf, Cond.code yX6_shareOf cX6_shareOf 2 (some .int), Cond.methodLink RL 32 yX5_duty, Cond.instanceMethod yX5_duty, Cond.selects RX5 yX5_duty yX5_duty, Cond.code yX5_duty cX5_duty 10 (some .int)]
def wsL_law_r8 : List Cond := [Cond.classLink RX5 82 RX3, Cond.instantiable RX3 7, Cond.initialized RX3, Cond.methodLink RX5 75 yX5_isTries, Cond.static yX5_isTries, Cond.code yX5_isTries cX5_isTries 1 (some .boolean), Cond.methodLink RX5 78 yX2_isFull, Cond.instanceMethod yX2_isFull, Cond.selects RX2 yX2_isFull yX2_isFull, Cond.code yX2_isFull cX2_isFull 1 (some .boolean), Cond.methodLink RX5 84 yX3_init, Cond.instanceMethod yX3_init, Cond.code yX3_init cX3_init 7 none, Cond.methodLink RX3 3 objectInit, Cond.fieldLink RX3 9 "CellDays$Duty" "kind" "I", Cond.fieldLink RX3 15 "CellDays$Duty" "load" "I", Cond.fieldLink RX3 18 "CellDays$Duty" "times" "I", Cond.fieldLink RX3 21 "CellDays$Duty" "peak" "I", Cond.fieldLink RX3 24 "CellDays$Duty" "tries" "I", Cond.fieldLink RX3 27 "CellDays$Duty" "worth" "I", Cond.fieldLink RX3 30 "CellDays$Duty" "isOn" "Z", Cond.methodLink RX5 87 yX2_add, Cond.instanceMethod yX2_add, Cond.selects RX2 yX2_add yX2_add]
def wsL_law_r9 : List Cond := [Cond.code yX2_add cX2_add 3 (some .int), Cond.methodLink RL 36 yX6_duty, Cond.instanceMethod yX6_duty, Cond.selects RX6 yX6_duty yX6_duty, Cond.code yX6_duty cX6_duty 7 (some .int), Cond.fieldLink RX6 72 "CellDaysModel" "duties" "I", Cond.methodLink RL 37 yX5_on, Cond.instanceMethod yX5_on, Cond.selects RX5 yX5_on yX5_on, Cond.code yX5_on cX5_on 5 (some .int), Cond.methodLink RX5 91 yX2_numbered, Cond.instanceMethod yX2_numbered, Cond.selects RX2 yX2_numbered yX2_numbered, Cond.code yX2_numbered cX2_numbered 2 (some (.object "CellDays$Duty")), Cond.methodLink RL 41 yX6_on, Cond.instanceMethod yX6_on, Cond.selects RX6 yX6_on yX6_on, Cond.code yX6_on cX6_on 4 (some .int), Cond.methodLink RX6 75 yX6_isDuty, Cond.instanceMethod yX6_isDuty, Cond.selects RX6 yX6_isDuty yX6_isDuty, Cond.code yX6_isDuty cX6_isDuty 2 (some .boolean), Cond.methodLink RL 42 yX5_drop, Cond.instanceMethod yX5_drop]
def wsL_law_r10 : List Cond := [Cond.selects RX5 yX5_drop yX5_drop, Cond.code yX5_drop cX5_drop 1 (some .int), Cond.methodLink RX5 103 yX2_removeLatest, Cond.instanceMethod yX2_removeLatest, Cond.selects RX2 yX2_removeLatest yX2_removeLatest, Cond.code yX2_removeLatest cX2_removeLatest 2 (some .int), Cond.methodLink RL 46 yX6_drop, Cond.instanceMethod yX6_drop, Cond.selects RX6 yX6_drop yX6_drop, Cond.code yX6_drop cX6_drop 1 (some .int), Cond.methodLink RL 47 yX5_drain, Cond.instanceMethod yX5_drain, Cond.selects RX5 yX5_drain yX5_drain, Cond.code yX5_drain cX5_drain 4 (some .int), Cond.methodLink RX5 110 yX3_traceOfOneAsk, Cond.instanceMethod yX3_traceOfOneAsk, Cond.selects RX3 yX3_traceOfOneAsk yX3_traceOfOneAsk, Cond.code yX3_traceOfOneAsk cX3_traceOfOneAsk 1 (some .int), Cond.methodLink RX5 116 yX3_drainBy, Cond.instanceMethod yX3_drainBy, Cond.selects RX3 yX3_drainBy yX3_drainBy, Cond.code yX3_drainBy cX3_drainBy 4 (some .int), Cond.methodLink RX3 34 Lib.Math.max.name, Cond.static Lib.Math.max.name]
def wsL_law_r11 : List Cond := [Cond.initialized "java/lang/Math", Cond.code Lib.Math.max.name Lib.Math.max.code 2 (some .int), Cond.methodLink RX3 40 Lib.Math.min.name, Cond.static Lib.Math.min.name, Cond.code Lib.Math.min.name Lib.Math.min.code 2 (some .int), Cond.methodLink RL 50 yX6_drain, Cond.instanceMethod yX6_drain, Cond.selects RX6 yX6_drain yX6_drain, Cond.code yX6_drain cX6_drain 3 (some .int), Cond.fieldLink RX6 78 "CellDaysModel" "trace" "J", Cond.constantLong RX6 82 (11), Cond.constantLong RX6 84 (111), Cond.methodLink RX6 86 yX6_drainOf, Cond.instanceMethod yX6_drainOf, Cond.selects RX6 yX6_drainOf yX6_drainOf, Cond.code yX6_drainOf cX6_drainOf 4 (some .int), Cond.methodLink RL 51 yX5_life, Cond.instanceMethod yX5_life, Cond.selects RX5 yX5_life yX5_life, Cond.code yX5_life cX5_life 2 (some .int), Cond.methodLink RX5 120 yX2_setOfOn, Cond.instanceMethod yX2_setOfOn, Cond.selects RX2 yX2_setOfOn yX2_setOfOn, Cond.code yX2_setOfOn cX2_setOfOn 4 (some .int)]
def wsL_law_r12 : List Cond := [Cond.methodLink RX2 19 yX2_numbered, Cond.methodLink RX5 123 yX2_loadOf, Cond.instanceMethod yX2_loadOf, Cond.selects RX2 yX2_loadOf yX2_loadOf, Cond.code yX2_loadOf cX2_loadOf 7 (some .int), Cond.methodLink RX2 27 yX2_numberedIn, Cond.instanceMethod yX2_numberedIn, Cond.selects RX2 yX2_numberedIn yX2_numberedIn, Cond.code yX2_numberedIn cX2_numberedIn 3 (some (.object "CellDays$Duty")), Cond.methodLink RX2 31 yX3_drainBy, Cond.methodLink RX5 127 yX1_daysLasted, Cond.instanceMethod yX1_daysLasted, Cond.selects RX1 yX1_daysLasted yX1_daysLasted, Cond.code yX1_daysLasted cX1_daysLasted 4 (some .int), Cond.methodLink RX1 47 yX1_chargeAtFirst, Cond.instanceMethod yX1_chargeAtFirst, Cond.selects RX1 yX1_chargeAtFirst yX1_chargeAtFirst, Cond.code yX1_chargeAtFirst cX1_chargeAtFirst 1 (some .int), Cond.methodLink RX1 39 yX1_shareOn, Cond.methodLink RX1 43 yX1_chargeBehind, Cond.instanceMethod yX1_chargeBehind, Cond.selects RX1 yX1_chargeBehind yX1_chargeBehind, Cond.code yX1_chargeBehind cX1_chargeBehind 7 (some .int), Cond.methodLink RL 54 yX6_life]
def wsL_law_r13 : List Cond := [Cond.instanceMethod yX6_life, Cond.selects RX6 yX6_life yX6_life, Cond.code yX6_life cX6_life 2 (some .int), Cond.methodLink RX6 100 yX6_isTries, Cond.static yX6_isTries, Cond.code yX6_isTries cX6_isTries 1 (some .boolean), Cond.methodLink RX6 103 yX6_bits, Cond.instanceMethod yX6_bits, Cond.selects RX6 yX6_bits yX6_bits, Cond.code yX6_bits cX6_bits 3 (some .int), Cond.methodLink RX6 107 yX6_lifeOf, Cond.instanceMethod yX6_lifeOf, Cond.selects RX6 yX6_lifeOf yX6_lifeOf, Cond.code yX6_lifeOf cX6_lifeOf 7 (some .int), Cond.methodLink RX6 93 yX6_drains, Cond.instanceMethod yX6_drains, Cond.selects RX6 yX6_drains yX6_drains, Cond.code yX6_drains cX6_drains 5 (some .int), Cond.methodLink RX6 96 yX6_behind, Cond.instanceMethod yX6_behind, Cond.selects RX6 yX6_behind yX6_behind, Cond.code yX6_behind cX6_behind 5 (some .int), Cond.methodLink RX6 90 yX6_up, Cond.static yX6_up]
def wsL_law_r14 : List Cond := [Cond.code yX6_up cX6_up 2 (some .int), Cond.methodLink RL 55 yX5_charge, Cond.instanceMethod yX5_charge, Cond.selects RX5 yX5_charge yX5_charge, Cond.code yX5_charge cX5_charge 4 (some .int), Cond.methodLink RX5 136 Lib.Math.max.name, Cond.methodLink RX5 133 yX1_chargeAhead, Cond.instanceMethod yX1_chargeAhead, Cond.selects RX1 yX1_chargeAhead yX1_chargeAhead, Cond.code yX1_chargeAhead cX1_chargeAhead 4 (some .int), Cond.methodLink RX1 51 yX1_chargeFrom, Cond.instanceMethod yX1_chargeFrom, Cond.selects RX1 yX1_chargeFrom yX1_chargeFrom, Cond.code yX1_chargeFrom cX1_chargeFrom 8 (some .int), Cond.methodLink RL 58 yX6_charge, Cond.instanceMethod yX6_charge, Cond.selects RX6 yX6_charge yX6_charge, Cond.code yX6_charge cX6_charge 6 (some .int), Cond.methodLink RL 59 yX5_price, Cond.instanceMethod yX5_price, Cond.selects RX5 yX5_price yX5_price, Cond.code yX5_price cX5_price 4 (some .int), Cond.methodLink RX5 141 yX5_sureBy, Cond.instanceMethod yX5_sureBy]
def wsL_law_r15 : List Cond := [Cond.selects RX5 yX5_sureBy yX5_sureBy, Cond.code yX5_sureBy cX5_sureBy 2 (some .int), Cond.methodLink RL 62 yX6_price, Cond.instanceMethod yX6_price, Cond.selects RX6 yX6_price yX6_price, Cond.code yX6_price cX6_price 3 (some .int), Cond.methodLink RL 63 yX5_plan, Cond.instanceMethod yX5_plan, Cond.selects RX5 yX5_plan yX5_plan, Cond.code yX5_plan cX5_plan 4 (some .int), Cond.methodLink RX5 144 yX5_worthiestSet, Cond.instanceMethod yX5_worthiestSet, Cond.selects RX5 yX5_worthiestSet yX5_worthiestSet, Cond.code yX5_worthiestSet cX5_worthiestSet 7 (some .int), Cond.methodLink RX5 147 yX2_worthOf, Cond.instanceMethod yX2_worthOf, Cond.selects RX2 yX2_worthOf yX2_worthOf, Cond.code yX2_worthOf cX2_worthOf 5 (some .int), Cond.methodLink RL 66 yX6_plan, Cond.instanceMethod yX6_plan, Cond.selects RX6 yX6_plan yX6_plan, Cond.code yX6_plan cX6_plan 5 (some .int), Cond.methodLink RX6 111 yX6_worthOf, Cond.instanceMethod yX6_worthOf]
def wsL_law_r16 : List Cond := [Cond.selects RX6 yX6_worthOf yX6_worthOf, Cond.code yX6_worthOf cX6_worthOf 4 (some .int), Cond.methodLink RL 67 yX5_sign, Cond.instanceMethod yX5_sign, Cond.selects RX5 yX5_sign yX5_sign, Cond.code yX5_sign cX5_sign 3 (some .int), Cond.methodLink RX5 150 yX4_isFull, Cond.instanceMethod yX4_isFull, Cond.selects RX4 yX4_isFull yX4_isFull, Cond.code yX4_isFull cX4_isFull 1 (some .boolean), Cond.methodLink RX5 151 yX4_add, Cond.instanceMethod yX4_add, Cond.selects RX4 yX4_add yX4_add, Cond.code yX4_add cX4_add 3 (some .int), Cond.methodLink RX4 29 yX4_arrange, Cond.instanceMethod yX4_arrange, Cond.selects RX4 yX4_arrange yX4_arrange, Cond.code yX4_arrange cX4_arrange 3 none, Cond.methodLink RX4 32 yX4_dayInOrder, Cond.instanceMethod yX4_dayInOrder, Cond.selects RX4 yX4_dayInOrder yX4_dayInOrder, Cond.code yX4_dayInOrder cX4_dayInOrder 2 (some .int), Cond.methodLink RL 70 yX6_sign, Cond.instanceMethod yX6_sign]
def wsL_law_r17 : List Cond := [Cond.selects RX6 yX6_sign yX6_sign, Cond.code yX6_sign cX6_sign 3 (some .int), Cond.fieldLink RX6 114 "CellDaysModel" "signs" "I", Cond.methodLink RL 71 yX5_forget, Cond.instanceMethod yX5_forget, Cond.selects RX5 yX5_forget yX5_forget, Cond.code yX5_forget cX5_forget 1 (some .int), Cond.methodLink RX5 154 yX4_removeLatest, Cond.instanceMethod yX4_removeLatest, Cond.selects RX4 yX4_removeLatest yX4_removeLatest, Cond.code yX4_removeLatest cX4_removeLatest 1 (some .int), Cond.methodLink RL 74 yX6_forget, Cond.instanceMethod yX6_forget, Cond.selects RX6 yX6_forget yX6_forget, Cond.code yX6_forget cX6_forget 1 (some .int), Cond.methodLink RL 75 yX5_level, Cond.instanceMethod yX5_level, Cond.selects RX5 yX5_level yX5_level, Cond.code yX5_level cX5_level 3 (some .int), Cond.methodLink RX5 155 yX0_isNumber, Cond.static yX0_isNumber, Cond.code yX0_isNumber cX0_isNumber 1 (some .boolean), Cond.methodLink RX5 158 yX0_levelAhead, Cond.instanceMethod yX0_levelAhead]
def wsL_law_r18 : List Cond := [Cond.selects RX0 yX0_levelAhead yX0_levelAhead, Cond.code yX0_levelAhead cX0_levelAhead 3 (some .int), Cond.methodLink RX0 66 yX0_leakOf, Cond.instanceMethod yX0_leakOf, Cond.selects RX0 yX0_leakOf yX0_leakOf, Cond.code yX0_leakOf cX0_leakOf 2 (some .int), Cond.methodLink RX0 69 yX0_loadOfCase, Cond.instanceMethod yX0_loadOfCase, Cond.selects RX0 yX0_loadOfCase yX0_loadOfCase, Cond.code yX0_loadOfCase cX0_loadOfCase 3 (some .int), Cond.methodLink RX0 49 yX2_setOfOn, Cond.methodLink RX0 58 yX2_loadOf, Cond.methodLink RX0 62 yX0_oddOf, Cond.static yX0_oddOf, Cond.code yX0_oddOf cX0_oddOf 1 (some .int), Cond.methodLink RX0 72 yX1_chargeAhead, Cond.methodLink RX0 75 yX1_levelOf, Cond.instanceMethod yX1_levelOf, Cond.selects RX1 yX1_levelOf yX1_levelOf, Cond.code yX1_levelOf cX1_levelOf 3 (some .int), Cond.methodLink RX1 55 Lib.Math.min.name, Cond.methodLink RL 78 yX6_level, Cond.instanceMethod yX6_level, Cond.selects RX6 yX6_level yX6_level]
def wsL_law_r19 : List Cond := [Cond.code yX6_level cX6_level 3 (some .int), Cond.methodLink RX6 117 yX6_isCase, Cond.static yX6_isCase, Cond.code yX6_isCase cX6_isCase 1 (some .boolean), Cond.methodLink RX6 120 yX6_empties, Cond.instanceMethod yX6_empties, Cond.selects RX6 yX6_empties yX6_empties, Cond.code yX6_empties cX6_empties 8 none, Cond.methodLink RL 79 yX5_agrees, Cond.instanceMethod yX5_agrees, Cond.selects RX5 yX5_agrees yX5_agrees, Cond.code yX5_agrees cX5_agrees 2 (some .int), Cond.methodLink RX5 161 yX0_fitsSigns, Cond.instanceMethod yX0_fitsSigns, Cond.selects RX0 yX0_fitsSigns yX0_fitsSigns, Cond.code yX0_fitsSigns cX0_fitsSigns 8 (some .boolean), Cond.methodLink RX0 78 yX1_chargeAtFirst, Cond.methodLink RX0 86 yX4_dayInOrder, Cond.methodLink RX0 89 yX1_chargeFrom, Cond.methodLink RX0 93 yX4_levelInOrder, Cond.instanceMethod yX4_levelInOrder, Cond.selects RX4 yX4_levelInOrder yX4_levelInOrder, Cond.code yX4_levelInOrder cX4_levelInOrder 2 (some .int), Cond.methodLink RL 82 yX6_agrees]
def wsL_law_r20 : List Cond := [Cond.instanceMethod yX6_agrees, Cond.selects RX6 yX6_agrees yX6_agrees, Cond.code yX6_agrees cX6_agrees 2 (some .int), Cond.methodLink RX6 124 yX6_isAgreeing, Cond.instanceMethod yX6_isAgreeing, Cond.selects RX6 yX6_isAgreeing yX6_isAgreeing, Cond.code yX6_isAgreeing cX6_isAgreeing 4 (some .boolean), Cond.methodLink RL 83 yX5_field, Cond.instanceMethod yX5_field, Cond.selects RX5 yX5_field yX5_field, Cond.code yX5_field cX5_field 2 (some .int), Cond.methodLink RX5 164 yX0_gatherAgreeing, Cond.instanceMethod yX0_gatherAgreeing, Cond.selects RX0 yX0_gatherAgreeing yX0_gatherAgreeing, Cond.code yX0_gatherAgreeing cX0_gatherAgreeing 2 none, Cond.methodLink RX0 96 yX0_fitsSigns, Cond.methodLink RX5 170 yX0_leastAgreeing, Cond.instanceMethod yX0_leastAgreeing, Cond.selects RX0 yX0_leastAgreeing yX0_leastAgreeing, Cond.code yX0_leastAgreeing cX0_leastAgreeing 1 (some .int), Cond.methodLink RX5 173 yX0_isOdd, Cond.instanceMethod yX0_isOdd, Cond.selects RX0 yX0_isOdd yX0_isOdd, Cond.code yX0_isOdd cX0_isOdd 2 (some .boolean)]
def wsL_law_r21 : List Cond := [Cond.methodLink RX5 176 yX0_dayThatTellsMost, Cond.instanceMethod yX0_dayThatTellsMost, Cond.selects RX0 yX0_dayThatTellsMost yX0_dayThatTellsMost, Cond.code yX0_dayThatTellsMost cX0_dayThatTellsMost 5 (some .int), Cond.methodLink RX0 108 yX0_startAgreeing, Cond.instanceMethod yX0_startAgreeing, Cond.selects RX0 yX0_startAgreeing yX0_startAgreeing, Cond.code yX0_startAgreeing cX0_startAgreeing 2 none, Cond.methodLink RX0 111 yX0_greatestAtOneLevel, Cond.instanceMethod yX0_greatestAtOneLevel, Cond.selects RX0 yX0_greatestAtOneLevel yX0_greatestAtOneLevel, Cond.code yX0_greatestAtOneLevel cX0_greatestAtOneLevel 5 (some .int), Cond.methodLink RX0 118 Lib.Math.max.name, Cond.methodLink RX0 114 yX0_passDay, Cond.instanceMethod yX0_passDay, Cond.selects RX0 yX0_passDay yX0_passDay, Cond.code yX0_passDay cX0_passDay 5 none, Cond.methodLink RX0 124 yX1_shareOn, Cond.methodLink RX0 127 yX1_chargeBehind, Cond.methodLink RL 86 yX6_field, Cond.instanceMethod yX6_field, Cond.selects RX6 yX6_field yX6_field, Cond.code yX6_field cX6_field 10 (some .int), Cond.methodLink RL 87 yX5_count]
def wsL_law_r22 : List Cond := [Cond.instanceMethod yX5_count, Cond.selects RX5 yX5_count yX5_count, Cond.code yX5_count cX5_count 2 (some .int), Cond.methodLink RX5 179 yJ6_bitCount_0f7a4, Cond.static yJ6_bitCount_0f7a4, Cond.initialized RJ6, Cond.code yJ6_bitCount_0f7a4 cJ6_bitCount_0f7a4 1 (some .int), Cond.constant RJ6 265 (1431655765), Cond.constant RJ6 266 (858993459), Cond.constant RJ6 267 (252645135), Cond.methodLink RL 90 yX6_count, Cond.instanceMethod yX6_count, Cond.selects RX6 yX6_count yX6_count, Cond.code yX6_count cX6_count 4 (some .int), Cond.methodLink RL 91 yX5_trace, Cond.instanceMethod yX5_trace, Cond.selects RX5 yX5_trace yX5_trace, Cond.code yX5_trace cX5_trace 1 (some .long), Cond.methodLink RL 95 yX6_trace, Cond.instanceMethod yX6_trace, Cond.selects RX6 yX6_trace yX6_trace, Cond.code yX6_trace cX6_trace 1 (some .long)]
def wsL_law : List Cond := (wsL_law_r1 ++ (wsL_law_r2 ++ (wsL_law_r3 ++ (wsL_law_r4 ++ (wsL_law_r5 ++ (wsL_law_r6 ++ (wsL_law_r7 ++ (wsL_law_r8 ++ (wsL_law_r9 ++ (wsL_law_r10 ++ (wsL_law_r11 ++ (wsL_law_r12 ++ (wsL_law_r13 ++ (wsL_law_r14 ++ (wsL_law_r15 ++ (wsL_law_r16 ++ (wsL_law_r17 ++ (wsL_law_r18 ++ (wsL_law_r19 ++ (wsL_law_r20 ++ (wsL_law_r21 ++ wsL_law_r22))))))))))))))))))))) ++ wsX50 ++ wsX60 ++ wsX10 ++ wsX20 ++ wsX40 ++ wsX00 ++ wsX30 ++ ([] : List Cond)
set_option maxRecDepth 20000 in
theorem wsL_in_r1 : ∀ w ∈ wsL_law_r1, w ∈ lw_tbl := by decide +kernel
set_option maxRecDepth 20000 in
theorem wsL_in_r2 : ∀ w ∈ wsL_law_r2, w ∈ lw_tbl := by decide +kernel
set_option maxRecDepth 20000 in
theorem wsL_in_r3 : ∀ w ∈ wsL_law_r3, w ∈ lw_tbl := by decide +kernel
set_option maxRecDepth 20000 in
theorem wsL_in_r4 : ∀ w ∈ wsL_law_r4, w ∈ lw_tbl := by decide +kernel
set_option maxRecDepth 20000 in
theorem wsL_in_r5 : ∀ w ∈ wsL_law_r5, w ∈ lw_tbl := by decide +kernel
set_option maxRecDepth 20000 in
theorem wsL_in_r6 : ∀ w ∈ wsL_law_r6, w ∈ lw_tbl := by decide +kernel
set_option maxRecDepth 20000 in
theorem wsL_in_r7 : ∀ w ∈ wsL_law_r7, w ∈ lw_tbl := by decide +kernel
set_option maxRecDepth 20000 in
theorem wsL_in_r8 : ∀ w ∈ wsL_law_r8, w ∈ lw_tbl := by decide +kernel
set_option maxRecDepth 20000 in
theorem wsL_in_r9 : ∀ w ∈ wsL_law_r9, w ∈ lw_tbl := by decide +kernel
set_option maxRecDepth 20000 in
theorem wsL_in_r10 : ∀ w ∈ wsL_law_r10, w ∈ lw_tbl := by decide +kernel
set_option maxRecDepth 20000 in
theorem wsL_in_r11 : ∀ w ∈ wsL_law_r11, w ∈ lw_tbl := by decide +kernel
set_option maxRecDepth 20000 in
theorem wsL_in_r12 : ∀ w ∈ wsL_law_r12, w ∈ lw_tbl := by decide +kernel
set_option maxRecDepth 20000 in
theorem wsL_in_r13 : ∀ w ∈ wsL_law_r13, w ∈ lw_tbl := by decide +kernel
set_option maxRecDepth 20000 in
theorem wsL_in_r14 : ∀ w ∈ wsL_law_r14, w ∈ lw_tbl := by decide +kernel
set_option maxRecDepth 20000 in
theorem wsL_in_r15 : ∀ w ∈ wsL_law_r15, w ∈ lw_tbl := by decide +kernel
set_option maxRecDepth 20000 in
theorem wsL_in_r16 : ∀ w ∈ wsL_law_r16, w ∈ lw_tbl := by decide +kernel
set_option maxRecDepth 20000 in
theorem wsL_in_r17 : ∀ w ∈ wsL_law_r17, w ∈ lw_tbl := by decide +kernel
set_option maxRecDepth 20000 in
theorem wsL_in_r18 : ∀ w ∈ wsL_law_r18, w ∈ lw_tbl := by decide +kernel
set_option maxRecDepth 20000 in
theorem wsL_in_r19 : ∀ w ∈ wsL_law_r19, w ∈ lw_tbl := by decide +kernel
set_option maxRecDepth 20000 in
theorem wsL_in_r20 : ∀ w ∈ wsL_law_r20, w ∈ lw_tbl := by decide +kernel
set_option maxRecDepth 20000 in
theorem wsL_in_r21 : ∀ w ∈ wsL_law_r21, w ∈ lw_tbl := by decide +kernel
set_option maxRecDepth 20000 in
theorem wsL_in_r22 : ∀ w ∈ wsL_law_r22, w ∈ lw_tbl := by decide +kernel
set_option maxRecDepth 20000 in
theorem wsL_in_x0 : ∀ w ∈ wsX00, w ∈ lw_tbl := by decide +kernel
set_option maxRecDepth 20000 in
theorem wsL_in_x1 : ∀ w ∈ wsX10, w ∈ lw_tbl := by decide +kernel
set_option maxRecDepth 20000 in
theorem wsL_in_x2 : ∀ w ∈ wsX20, w ∈ lw_tbl := by decide +kernel
set_option maxRecDepth 20000 in
theorem wsL_in_x3 : ∀ w ∈ wsX30, w ∈ lw_tbl := by decide +kernel
set_option maxRecDepth 20000 in
theorem wsL_in_x4 : ∀ w ∈ wsX40, w ∈ lw_tbl := by decide +kernel
set_option maxRecDepth 20000 in
theorem wsL_in_x5 : ∀ w ∈ wsX50, w ∈ lw_tbl := by decide +kernel
set_option maxRecDepth 20000 in
theorem wsL_in_x6 : ∀ w ∈ wsX60, w ∈ lw_tbl := by decide +kernel
theorem ws_app {big a b : List Cond} (ha : ∀ w ∈ a, w ∈ big) (hb : ∀ w ∈ b, w ∈ big) : ∀ w ∈ a ++ b, w ∈ big := fun w h => (List.mem_append.mp h).elim (ha w) (hb w)
theorem wsL_law_in : ∀ w ∈ wsL_law, w ∈ lw_tbl := ws_app (ws_app (ws_app (ws_app (ws_app (ws_app (ws_app (ws_app (ws_app wsL_in_r1 (ws_app wsL_in_r2 (ws_app wsL_in_r3 (ws_app wsL_in_r4 (ws_app wsL_in_r5 (ws_app wsL_in_r6 (ws_app wsL_in_r7 (ws_app wsL_in_r8 (ws_app wsL_in_r9 (ws_app wsL_in_r10 (ws_app wsL_in_r11 (ws_app wsL_in_r12 (ws_app wsL_in_r13 (ws_app wsL_in_r14 (ws_app wsL_in_r15 (ws_app wsL_in_r16 (ws_app wsL_in_r17 (ws_app wsL_in_r18 (ws_app wsL_in_r19 (ws_app wsL_in_r20 (ws_app wsL_in_r21 wsL_in_r22))))))))))))))))))))) wsL_in_x5) wsL_in_x6) wsL_in_x1) wsL_in_x2) wsL_in_x4) wsL_in_x0) wsL_in_x3) (fun w h => absurd h List.not_mem_nil)
theorem inlX0 : ∀ w ∈ wsX00, w ∈ wsL_law := fun _ h => List.mem_append_left _ (List.mem_append_left _ (List.mem_append_right _ h))
theorem inX0 : ∀ w ∈ wsX00, w ∈ lw_tbl := fun w h => wsL_law_in w (inlX0 w h)
theorem inlX1 : ∀ w ∈ wsX10, w ∈ wsL_law := fun _ h => List.mem_append_left _ (List.mem_append_left _ (List.mem_append_left _ (List.mem_append_left _ (List.mem_append_left _ (List.mem_append_right _ h)))))
theorem inX1 : ∀ w ∈ wsX10, w ∈ lw_tbl := fun w h => wsL_law_in w (inlX1 w h)
theorem inlX2 : ∀ w ∈ wsX20, w ∈ wsL_law := fun _ h => List.mem_append_left _ (List.mem_append_left _ (List.mem_append_left _ (List.mem_append_left _ (List.mem_append_right _ h))))
theorem inX2 : ∀ w ∈ wsX20, w ∈ lw_tbl := fun w h => wsL_law_in w (inlX2 w h)
theorem inlX3 : ∀ w ∈ wsX30, w ∈ wsL_law := fun _ h => List.mem_append_left _ (List.mem_append_right _ h)
theorem inX3 : ∀ w ∈ wsX30, w ∈ lw_tbl := fun w h => wsL_law_in w (inlX3 w h)
theorem inlX4 : ∀ w ∈ wsX40, w ∈ wsL_law := fun _ h => List.mem_append_left _ (List.mem_append_left _ (List.mem_append_left _ (List.mem_append_right _ h)))
theorem inX4 : ∀ w ∈ wsX40, w ∈ lw_tbl := fun w h => wsL_law_in w (inlX4 w h)
theorem inlX5 : ∀ w ∈ wsX50, w ∈ wsL_law := fun _ h => List.mem_append_left _ (List.mem_append_left _ (List.mem_append_left _ (List.mem_append_left _ (List.mem_append_left _ (List.mem_append_left _ (List.mem_append_left _ (List.mem_append_right _ h)))))))
theorem inX5 : ∀ w ∈ wsX50, w ∈ lw_tbl := fun w h => wsL_law_in w (inlX5 w h)
theorem inlX6 : ∀ w ∈ wsX60, w ∈ wsL_law := fun _ h => List.mem_append_left _ (List.mem_append_left _ (List.mem_append_left _ (List.mem_append_left _ (List.mem_append_left _ (List.mem_append_left _ (List.mem_append_right _ h))))))
theorem inX6 : ∀ w ∈ wsX60, w ∈ lw_tbl := fun w h => wsL_law_in w (inlX6 w h)
theorem inJ6 : ∀ w ∈ wsJ60, w ∈ lw_tbl := by decide +kernel
theorem inJ9 : ∀ w ∈ wsJ90, w ∈ lw_tbl := by decide +kernel
end
section
theorem dX0_init_0 : decode cX0_init 0 = .ok (.aload_n 0, 1) := by decide +kernel
theorem dX0_init_1 : decode cX0_init 1 = .ok (.invokespecial 5, 3) := by decide +kernel
theorem dX0_init_4 : decode cX0_init 4 = .ok (.aload_n 0, 1) := by decide +kernel
theorem dX0_init_5 : decode cX0_init 5 = .ok (.sipush 150, 3) := by decide +kernel
theorem dX0_init_8 : decode cX0_init 8 = .ok (.newarray .int, 2) := by decide +kernel
theorem dX0_init_10 : decode cX0_init 10 = .ok (.putfield 11, 3) := by decide +kernel
theorem dX0_init_13 : decode cX0_init 13 = .ok (.aload_n 0, 1) := by decide +kernel
theorem dX0_init_14 : decode cX0_init 14 = .ok (.sipush 150, 3) := by decide +kernel
theorem dX0_init_17 : decode cX0_init 17 = .ok (.newarray .int, 2) := by decide +kernel
theorem dX0_init_19 : decode cX0_init 19 = .ok (.putfield 15, 3) := by decide +kernel
theorem dX0_init_22 : decode cX0_init 22 = .ok (.aload_n 0, 1) := by decide +kernel
theorem dX0_init_23 : decode cX0_init 23 = .ok (.sipush 150, 3) := by decide +kernel
theorem dX0_init_26 : decode cX0_init 26 = .ok (.newarray .int, 2) := by decide +kernel
theorem dX0_init_28 : decode cX0_init 28 = .ok (.putfield 18, 3) := by decide +kernel
theorem dX0_init_31 : decode cX0_init 31 = .ok (.aload_n 0, 1) := by decide +kernel
theorem dX0_init_32 : decode cX0_init 32 = .ok (.bipush 10, 2) := by decide +kernel
theorem dX0_init_34 : decode cX0_init 34 = .ok (.newarray .int, 2) := by decide +kernel
theorem dX0_init_36 : decode cX0_init 36 = .ok (.putfield 23, 3) := by decide +kernel
theorem dX0_init_39 : decode cX0_init 39 = .ok (.aload_n 0, 1) := by decide +kernel
theorem dX0_init_40 : decode cX0_init 40 = .ok (.iconst 0, 1) := by decide +kernel
theorem dX0_init_41 : decode cX0_init 41 = .ok (.putfield 26, 3) := by decide +kernel
theorem dX0_init_44 : decode cX0_init 44 = .ok (.aload_n 0, 1) := by decide +kernel
theorem dX0_init_45 : decode cX0_init 45 = .ok (.aload_n 1, 1) := by decide +kernel
theorem dX0_init_46 : decode cX0_init 46 = .ok (.putfield 30, 3) := by decide +kernel
theorem dX0_init_49 : decode cX0_init 49 = .ok (.aload_n 0, 1) := by decide +kernel
theorem dX0_init_50 : decode cX0_init 50 = .ok (.aload_n 2, 1) := by decide +kernel
theorem dX0_init_51 : decode cX0_init 51 = .ok (.putfield 34, 3) := by decide +kernel
theorem dX0_init_54 : decode cX0_init 54 = .ok (.aload_n 0, 1) := by decide +kernel
theorem dX0_init_55 : decode cX0_init 55 = .ok (.aload_n 3, 1) := by decide +kernel
theorem dX0_init_56 : decode cX0_init 56 = .ok (.putfield 38, 3) := by decide +kernel
theorem dX0_init_59 : decode cX0_init 59 = .ok (.return_, 1) := by decide +kernel
set_option maxRecDepth 20000 in
theorem ggX0_isNumber_X5_within : GoodIn wsX0_isNumber wsX5_within := goodIn_r _ [3] (by decide +kernel) (by decide +kernel)
set_option maxRecDepth 20000 in
theorem gX0_isNumber_X5_within_n42 : GoodIn wsX0_isNumber (wsX5_within) := ggX0_isNumber_X5_within
theorem dX0_isNumber_0 : decode cX0_isNumber 0 = .ok (.iload_n 0, 1) := by decide +kernel
theorem dX0_isNumber_1 : decode cX0_isNumber 1 = .ok (.iconst 0, 1) := by decide +kernel
theorem dX0_isNumber_2 : decode cX0_isNumber 2 = .ok (.sipush 149, 3) := by decide +kernel
theorem dX0_isNumber_5 : decode cX0_isNumber 5 = .ok (.invokestatic 42, 3) := by decide +kernel
theorem dX0_isNumber_8 : decode cX0_isNumber 8 = .ok (.ireturn, 1) := by decide +kernel
theorem dX0_oddOf_0 : decode cX0_oddOf 0 = .ok (.iload_n 0, 1) := by decide +kernel
theorem dX0_oddOf_1 : decode cX0_oddOf 1 = .ok (.iconst 5, 1) := by decide +kernel
theorem dX0_oddOf_2 : decode cX0_oddOf 2 = .ok (.irem, 1) := by decide +kernel
theorem dX0_oddOf_3 : decode cX0_oddOf 3 = .ok (.ireturn, 1) := by decide +kernel
theorem dX0_leakOf_0 : decode cX0_leakOf 0 = .ok (.aload_n 0, 1) := by decide +kernel
theorem dX0_leakOf_1 : decode cX0_leakOf 1 = .ok (.getfield 30, 3) := by decide +kernel
theorem dX0_leakOf_4 : decode cX0_leakOf 4 = .ok (.getfield 46, 3) := by decide +kernel
theorem dX0_leakOf_7 : decode cX0_leakOf 7 = .ok (.iload_n 1, 1) := by decide +kernel
theorem dX0_leakOf_8 : decode cX0_leakOf 8 = .ok (.bipush 25, 2) := by decide +kernel
theorem dX0_leakOf_10 : decode cX0_leakOf 10 = .ok (.idiv, 1) := by decide +kernel
theorem dX0_leakOf_11 : decode cX0_leakOf 11 = .ok (.iadd, 1) := by decide +kernel
theorem dX0_leakOf_12 : decode cX0_leakOf 12 = .ok (.ireturn, 1) := by decide +kernel
set_option maxRecDepth 20000 in
theorem ggX0_loadOfCase_X2_setOfOn : GoodIn wsX0_loadOfCase wsX2_setOfOn := goodIn_r _ [7, 8, 9, 10, 11, 6, 12, 13, 57, 58, 59, 60, 61, 62, 63, 64, 65] (by decide +kernel) (by decide +kernel)
set_option maxRecDepth 20000 in
theorem gX0_loadOfCase_X2_setOfOn : GoodIn wsX0_loadOfCase (wsV RX0 49 RX2 yX2_setOfOn wsX2_setOfOn) := goodIn_app (goodIn_of _ (by decide +kernel)) ggX0_loadOfCase_X2_setOfOn
set_option maxRecDepth 20000 in
theorem ggX0_loadOfCase_X2_loadOf : GoodIn wsX0_loadOfCase wsX2_loadOf := goodIn_r _ [17, 8, 18, 19, 20, 6, 21, 9, 10, 11, 12, 13, 22, 23, 24, 25, 26, 27, 28, 29, 30, 31, 32, 33, 34, 35, 36, 37, 38, 57, 58, 59, 60, 61, 62, 63, 64, 65] (by decide +kernel) (by decide +kernel)
set_option maxRecDepth 20000 in
theorem gX0_loadOfCase_X2_loadOf : GoodIn wsX0_loadOfCase (wsV RX0 58 RX2 yX2_loadOf wsX2_loadOf) := goodIn_app (goodIn_of _ (by decide +kernel)) ggX0_loadOfCase_X2_loadOf
set_option maxRecDepth 20000 in
theorem ggX0_loadOfCase_X0_oddOf : GoodIn wsX0_loadOfCase wsX0_oddOf := goodIn_r _ [42] (by decide +kernel) (by decide +kernel)
set_option maxRecDepth 20000 in
theorem gX0_loadOfCase_X0_oddOf : GoodIn wsX0_loadOfCase (va_wsS RX0 62 yX0_oddOf wsX0_oddOf) := goodIn_app (goodIn_of _ (by decide +kernel)) ggX0_loadOfCase_X0_oddOf
theorem dX0_loadOfCase_0 : decode cX0_loadOfCase 0 = .ok (.iload_n 1, 1) := by decide +kernel
theorem dX0_loadOfCase_1 : decode cX0_loadOfCase 1 = .ok (.iconst 5, 1) := by decide +kernel
theorem dX0_loadOfCase_2 : decode cX0_loadOfCase 2 = .ok (.idiv, 1) := by decide +kernel
theorem dX0_loadOfCase_3 : decode cX0_loadOfCase 3 = .ok (.iconst 5, 1) := by decide +kernel
theorem dX0_loadOfCase_4 : decode cX0_loadOfCase 4 = .ok (.irem, 1) := by decide +kernel
theorem dX0_loadOfCase_5 : decode cX0_loadOfCase 5 = .ok (.iconst 1, 1) := by decide +kernel
theorem dX0_loadOfCase_6 : decode cX0_loadOfCase 6 = .ok (.iadd, 1) := by decide +kernel
theorem dX0_loadOfCase_7 : decode cX0_loadOfCase 7 = .ok (.istore_n 2, 1) := by decide +kernel
theorem dX0_loadOfCase_8 : decode cX0_loadOfCase 8 = .ok (.aload_n 0, 1) := by decide +kernel
theorem dX0_loadOfCase_9 : decode cX0_loadOfCase 9 = .ok (.getfield 34, 3) := by decide +kernel
theorem dX0_loadOfCase_12 : decode cX0_loadOfCase 12 = .ok (.aload_n 0, 1) := by decide +kernel
theorem dX0_loadOfCase_13 : decode cX0_loadOfCase 13 = .ok (.getfield 34, 3) := by decide +kernel
theorem dX0_loadOfCase_16 : decode cX0_loadOfCase 16 = .ok (.invokevirtual 49, 3) := by decide +kernel
theorem dX0_loadOfCase_19 : decode cX0_loadOfCase 19 = .ok (.iload_n 2, 1) := by decide +kernel
theorem dX0_loadOfCase_20 : decode cX0_loadOfCase 20 = .ok (.aload_n 0, 1) := by decide +kernel
theorem dX0_loadOfCase_21 : decode cX0_loadOfCase 21 = .ok (.getfield 30, 3) := by decide +kernel
theorem dX0_loadOfCase_24 : decode cX0_loadOfCase 24 = .ok (.getfield 55, 3) := by decide +kernel
theorem dX0_loadOfCase_27 : decode cX0_loadOfCase 27 = .ok (.invokevirtual 58, 3) := by decide +kernel
theorem dX0_loadOfCase_30 : decode cX0_loadOfCase 30 = .ok (.bipush 20, 2) := by decide +kernel
theorem dX0_loadOfCase_32 : decode cX0_loadOfCase 32 = .ok (.iload_n 1, 1) := by decide +kernel
theorem dX0_loadOfCase_33 : decode cX0_loadOfCase 33 = .ok (.invokestatic 62, 3) := by decide +kernel
theorem dX0_loadOfCase_36 : decode cX0_loadOfCase 36 = .ok (.imul, 1) := by decide +kernel
theorem dX0_loadOfCase_37 : decode cX0_loadOfCase 37 = .ok (.iadd, 1) := by decide +kernel
theorem dX0_loadOfCase_38 : decode cX0_loadOfCase 38 = .ok (.ireturn, 1) := by decide +kernel
set_option maxRecDepth 20000 in
theorem ggX0_levelAhead_X0_leakOf : GoodIn wsX0_levelAhead wsX0_leakOf := goodIn_r _ [6, 1, 84, 85, 86, 87, 88, 89, 90, 91, 92, 93, 94, 95, 96, 97] (by decide +kernel) (by decide +kernel)
set_option maxRecDepth 20000 in
theorem gX0_levelAhead_X0_leakOf : GoodIn wsX0_levelAhead (wsV RX0 66 RX0 yX0_leakOf wsX0_leakOf) := goodIn_app (goodIn_of _ (by decide +kernel)) ggX0_levelAhead_X0_leakOf
set_option maxRecDepth 20000 in
theorem ggX0_levelAhead_X0_loadOfCase : GoodIn wsX0_levelAhead wsX0_loadOfCase := goodIn_r _ [10, 11, 1, 12, 13, 14, 15, 16, 17, 18, 19, 20, 21, 22, 23, 24, 25, 26, 27, 28, 29, 30, 31, 32, 33, 34, 35, 36, 37, 38, 39, 40, 41, 42, 43, 44, 45, 46, 47, 48, 49, 5, 50, 84, 85, 86, 87, 88, 89, 90, 91, 92, 93, 94, 95, 96, 97, 98, 99, 100, 101, 102, 103, 104, 105, 106] (by decide +kernel) (by decide +kernel)
set_option maxRecDepth 20000 in
theorem gX0_levelAhead_X0_loadOfCase : GoodIn wsX0_levelAhead (wsV RX0 69 RX0 yX0_loadOfCase wsX0_loadOfCase) := goodIn_app (goodIn_of _ (by decide +kernel)) ggX0_levelAhead_X0_loadOfCase
set_option maxRecDepth 20000 in
theorem ggX0_levelAhead_X1_chargeAhead : GoodIn wsX0_levelAhead wsX1_chargeAhead := goodIn_r _ [55, 56, 57, 58, 54, 59, 60, 61, 62, 63, 64, 65, 66, 67, 68, 69, 70, 71, 72, 73, 74, 75, 76, 77, 78, 92, 93, 94, 95, 96, 97] (by decide +kernel) (by decide +kernel)
set_option maxRecDepth 20000 in
theorem gX0_levelAhead_X1_chargeAhead : GoodIn wsX0_levelAhead (wsV RX0 72 RX1 yX1_chargeAhead wsX1_chargeAhead) := goodIn_app (goodIn_of _ (by decide +kernel)) ggX0_levelAhead_X1_chargeAhead
set_option maxRecDepth 20000 in
theorem ggX0_levelAhead_X1_levelOf : GoodIn wsX0_levelAhead wsX1_levelOf := goodIn_r _ [82, 83, 46, 42, 47, 56, 57, 58, 54, 59, 60, 92, 93, 94, 95, 96, 97] (by decide +kernel) (by decide +kernel)
set_option maxRecDepth 20000 in
theorem gX0_levelAhead_X1_levelOf : GoodIn wsX0_levelAhead (wsV RX0 75 RX1 yX1_levelOf wsX1_levelOf) := goodIn_app (goodIn_of _ (by decide +kernel)) ggX0_levelAhead_X1_levelOf
theorem dX0_levelAhead_0 : decode cX0_levelAhead 0 = .ok (.aload_n 0, 1) := by decide +kernel
theorem dX0_levelAhead_1 : decode cX0_levelAhead 1 = .ok (.getfield 30, 3) := by decide +kernel
theorem dX0_levelAhead_4 : decode cX0_levelAhead 4 = .ok (.aload_n 0, 1) := by decide +kernel
theorem dX0_levelAhead_5 : decode cX0_levelAhead 5 = .ok (.getfield 30, 3) := by decide +kernel
theorem dX0_levelAhead_8 : decode cX0_levelAhead 8 = .ok (.iload_n 2, 1) := by decide +kernel
theorem dX0_levelAhead_9 : decode cX0_levelAhead 9 = .ok (.aload_n 0, 1) := by decide +kernel
theorem dX0_levelAhead_10 : decode cX0_levelAhead 10 = .ok (.iload_n 1, 1) := by decide +kernel
theorem dX0_levelAhead_11 : decode cX0_levelAhead 11 = .ok (.invokevirtual 66, 3) := by decide +kernel
theorem dX0_levelAhead_14 : decode cX0_levelAhead 14 = .ok (.aload_n 0, 1) := by decide +kernel
theorem dX0_levelAhead_15 : decode cX0_levelAhead 15 = .ok (.iload_n 1, 1) := by decide +kernel
theorem dX0_levelAhead_16 : decode cX0_levelAhead 16 = .ok (.invokevirtual 69, 3) := by decide +kernel
theorem dX0_levelAhead_19 : decode cX0_levelAhead 19 = .ok (.invokevirtual 72, 3) := by decide +kernel
theorem dX0_levelAhead_22 : decode cX0_levelAhead 22 = .ok (.invokevirtual 75, 3) := by decide +kernel
theorem dX0_levelAhead_25 : decode cX0_levelAhead 25 = .ok (.ireturn, 1) := by decide +kernel
set_option maxRecDepth 20000 in
theorem ggX0_fitsSigns_X0_leakOf : GoodIn wsX0_fitsSigns wsX0_leakOf := goodIn_r _ [7, 1, 94, 95, 96, 97, 98, 99, 100, 101, 106, 107, 108, 109, 110, 111] (by decide +kernel) (by decide +kernel)
set_option maxRecDepth 20000 in
theorem gX0_fitsSigns_X0_leakOf : GoodIn wsX0_fitsSigns (wsV RX0 66 RX0 yX0_leakOf wsX0_leakOf) := goodIn_app (goodIn_of _ (by decide +kernel)) ggX0_fitsSigns_X0_leakOf
set_option maxRecDepth 20000 in
theorem ggX0_fitsSigns_X0_loadOfCase : GoodIn wsX0_fitsSigns wsX0_loadOfCase := goodIn_r _ [11, 12, 1, 13, 14, 15, 16, 17, 18, 19, 20, 21, 22, 23, 24, 25, 26, 27, 28, 29, 30, 31, 32, 33, 34, 35, 36, 37, 38, 39, 40, 41, 42, 43, 44, 45, 46, 47, 48, 49, 50, 6, 51, 94, 95, 96, 97, 98, 99, 100, 101, 106, 107, 108, 109, 110, 111, 112, 113, 114, 115, 116, 117, 118, 119, 120] (by decide +kernel) (by decide +kernel)
set_option maxRecDepth 20000 in
theorem gX0_fitsSigns_X0_loadOfCase : GoodIn wsX0_fitsSigns (wsV RX0 69 RX0 yX0_loadOfCase wsX0_loadOfCase) := goodIn_app (goodIn_of _ (by decide +kernel)) ggX0_fitsSigns_X0_loadOfCase
set_option maxRecDepth 20000 in
theorem ggX0_fitsSigns_X1_chargeAtFirst : GoodIn wsX0_fitsSigns wsX1_chargeAtFirst := goodIn_r _ [56, 57, 106, 107, 108, 109, 110, 111] (by decide +kernel) (by decide +kernel)
set_option maxRecDepth 20000 in
theorem gX0_fitsSigns_X1_chargeAtFirst : GoodIn wsX0_fitsSigns (wsV RX0 78 RX1 yX1_chargeAtFirst wsX1_chargeAtFirst) := goodIn_app (goodIn_of _ (by decide +kernel)) ggX0_fitsSigns_X1_chargeAtFirst
set_option maxRecDepth 20000 in
theorem ggX0_fitsSigns_X4_dayInOrder : GoodIn wsX0_fitsSigns wsX4_dayInOrder := goodIn_r _ [62, 63, 64, 65, 66, 67, 102, 103, 104, 105] (by decide +kernel) (by decide +kernel)
set_option maxRecDepth 20000 in
theorem gX0_fitsSigns_X4_dayInOrder : GoodIn wsX0_fitsSigns (wsV RX0 86 RX4 yX4_dayInOrder wsX4_dayInOrder) := goodIn_app (goodIn_of _ (by decide +kernel)) ggX0_fitsSigns_X4_dayInOrder
set_option maxRecDepth 20000 in
theorem ggX0_fitsSigns_X1_chargeFrom : GoodIn wsX0_fitsSigns wsX1_chargeFrom := goodIn_r _ [71, 72, 73, 74, 55, 75, 76, 77, 78, 65, 66, 67, 79, 80, 81, 82, 106, 107, 108, 109, 110, 111] (by decide +kernel) (by decide +kernel)
set_option maxRecDepth 20000 in
theorem gX0_fitsSigns_X1_chargeFrom : GoodIn wsX0_fitsSigns (wsV RX0 89 RX1 yX1_chargeFrom wsX1_chargeFrom) := goodIn_app (goodIn_of _ (by decide +kernel)) ggX0_fitsSigns_X1_chargeFrom
set_option maxRecDepth 20000 in
theorem ggX0_fitsSigns_X1_levelOf : GoodIn wsX0_fitsSigns wsX1_levelOf := goodIn_r _ [86, 87, 47, 43, 48, 88, 53, 54, 55, 56, 57, 106, 107, 108, 109, 110, 111] (by decide +kernel) (by decide +kernel)
set_option maxRecDepth 20000 in
theorem gX0_fitsSigns_X1_levelOf : GoodIn wsX0_fitsSigns (wsV RX0 75 RX1 yX1_levelOf wsX1_levelOf) := goodIn_app (goodIn_of _ (by decide +kernel)) ggX0_fitsSigns_X1_levelOf
set_option maxRecDepth 20000 in
theorem ggX0_fitsSigns_X4_levelInOrder : GoodIn wsX0_fitsSigns wsX4_levelInOrder := goodIn_r _ [92, 93, 64, 65, 66, 67, 102, 103, 104, 105] (by decide +kernel) (by decide +kernel)
set_option maxRecDepth 20000 in
theorem gX0_fitsSigns_X4_levelInOrder : GoodIn wsX0_fitsSigns (wsV RX0 93 RX4 yX4_levelInOrder wsX4_levelInOrder) := goodIn_app (goodIn_of _ (by decide +kernel)) ggX0_fitsSigns_X4_levelInOrder
theorem dX0_fitsSigns_0 : decode cX0_fitsSigns 0 = .ok (.aload_n 0, 1) := by decide +kernel
theorem dX0_fitsSigns_1 : decode cX0_fitsSigns 1 = .ok (.iload_n 1, 1) := by decide +kernel
theorem dX0_fitsSigns_2 : decode cX0_fitsSigns 2 = .ok (.invokevirtual 66, 3) := by decide +kernel
theorem dX0_fitsSigns_5 : decode cX0_fitsSigns 5 = .ok (.istore_n 2, 1) := by decide +kernel
theorem dX0_fitsSigns_6 : decode cX0_fitsSigns 6 = .ok (.aload_n 0, 1) := by decide +kernel
theorem dX0_fitsSigns_7 : decode cX0_fitsSigns 7 = .ok (.iload_n 1, 1) := by decide +kernel
theorem dX0_fitsSigns_8 : decode cX0_fitsSigns 8 = .ok (.invokevirtual 69, 3) := by decide +kernel
theorem dX0_fitsSigns_11 : decode cX0_fitsSigns 11 = .ok (.istore_n 3, 1) := by decide +kernel
theorem dX0_fitsSigns_12 : decode cX0_fitsSigns 12 = .ok (.aload_n 0, 1) := by decide +kernel
theorem dX0_fitsSigns_13 : decode cX0_fitsSigns 13 = .ok (.getfield 30, 3) := by decide +kernel
theorem dX0_fitsSigns_16 : decode cX0_fitsSigns 16 = .ok (.invokevirtual 78, 3) := by decide +kernel
theorem dX0_fitsSigns_19 : decode cX0_fitsSigns 19 = .ok (.istore 4, 2) := by decide +kernel
theorem dX0_fitsSigns_21 : decode cX0_fitsSigns 21 = .ok (.iconst 0, 1) := by decide +kernel
theorem dX0_fitsSigns_22 : decode cX0_fitsSigns 22 = .ok (.istore 5, 2) := by decide +kernel
theorem dX0_fitsSigns_24 : decode cX0_fitsSigns 24 = .ok (.iconst 0, 1) := by decide +kernel
theorem dX0_fitsSigns_25 : decode cX0_fitsSigns 25 = .ok (.istore 6, 2) := by decide +kernel
theorem dX0_fitsSigns_27 : decode cX0_fitsSigns 27 = .ok (.iload 6, 2) := by decide +kernel
theorem dX0_fitsSigns_29 : decode cX0_fitsSigns 29 = .ok (.aload_n 0, 1) := by decide +kernel
theorem dX0_fitsSigns_30 : decode cX0_fitsSigns 30 = .ok (.getfield 38, 3) := by decide +kernel
theorem dX0_fitsSigns_33 : decode cX0_fitsSigns 33 = .ok (.getfield 81, 3) := by decide +kernel
theorem dX0_fitsSigns_36 : decode cX0_fitsSigns 36 = .ok (.if_icmp .ge 64, 3) := by decide +kernel
theorem dX0_fitsSigns_39 : decode cX0_fitsSigns 39 = .ok (.aload_n 0, 1) := by decide +kernel
theorem dX0_fitsSigns_40 : decode cX0_fitsSigns 40 = .ok (.getfield 38, 3) := by decide +kernel
theorem dX0_fitsSigns_43 : decode cX0_fitsSigns 43 = .ok (.iload 6, 2) := by decide +kernel
theorem dX0_fitsSigns_45 : decode cX0_fitsSigns 45 = .ok (.invokevirtual 86, 3) := by decide +kernel
theorem dX0_fitsSigns_48 : decode cX0_fitsSigns 48 = .ok (.istore 7, 2) := by decide +kernel
theorem dX0_fitsSigns_50 : decode cX0_fitsSigns 50 = .ok (.aload_n 0, 1) := by decide +kernel
theorem dX0_fitsSigns_51 : decode cX0_fitsSigns 51 = .ok (.getfield 30, 3) := by decide +kernel
theorem dX0_fitsSigns_54 : decode cX0_fitsSigns 54 = .ok (.iload 4, 2) := by decide +kernel
theorem dX0_fitsSigns_56 : decode cX0_fitsSigns 56 = .ok (.iload 5, 2) := by decide +kernel
theorem dX0_fitsSigns_58 : decode cX0_fitsSigns 58 = .ok (.iload 7, 2) := by decide +kernel
theorem dX0_fitsSigns_60 : decode cX0_fitsSigns 60 = .ok (.iload_n 2, 1) := by decide +kernel
theorem dX0_fitsSigns_61 : decode cX0_fitsSigns 61 = .ok (.iload_n 3, 1) := by decide +kernel
theorem dX0_fitsSigns_62 : decode cX0_fitsSigns 62 = .ok (.invokevirtual 89, 3) := by decide +kernel
theorem dX0_fitsSigns_65 : decode cX0_fitsSigns 65 = .ok (.istore 4, 2) := by decide +kernel
theorem dX0_fitsSigns_67 : decode cX0_fitsSigns 67 = .ok (.iload 7, 2) := by decide +kernel
theorem dX0_fitsSigns_69 : decode cX0_fitsSigns 69 = .ok (.istore 5, 2) := by decide +kernel
theorem dX0_fitsSigns_71 : decode cX0_fitsSigns 71 = .ok (.aload_n 0, 1) := by decide +kernel
theorem dX0_fitsSigns_72 : decode cX0_fitsSigns 72 = .ok (.getfield 30, 3) := by decide +kernel
theorem dX0_fitsSigns_75 : decode cX0_fitsSigns 75 = .ok (.iload 4, 2) := by decide +kernel
theorem dX0_fitsSigns_77 : decode cX0_fitsSigns 77 = .ok (.invokevirtual 75, 3) := by decide +kernel
theorem dX0_fitsSigns_80 : decode cX0_fitsSigns 80 = .ok (.aload_n 0, 1) := by decide +kernel
theorem dX0_fitsSigns_81 : decode cX0_fitsSigns 81 = .ok (.getfield 38, 3) := by decide +kernel
theorem dX0_fitsSigns_84 : decode cX0_fitsSigns 84 = .ok (.iload 6, 2) := by decide +kernel
theorem dX0_fitsSigns_86 : decode cX0_fitsSigns 86 = .ok (.invokevirtual 93, 3) := by decide +kernel
theorem dX0_fitsSigns_89 : decode cX0_fitsSigns 89 = .ok (.if_icmp .eq 5, 3) := by decide +kernel
theorem dX0_fitsSigns_92 : decode cX0_fitsSigns 92 = .ok (.iconst 0, 1) := by decide +kernel
theorem dX0_fitsSigns_93 : decode cX0_fitsSigns 93 = .ok (.ireturn, 1) := by decide +kernel
theorem dX0_fitsSigns_94 : decode cX0_fitsSigns 94 = .ok (.iinc 6 1, 3) := by decide +kernel
theorem dX0_fitsSigns_97 : decode cX0_fitsSigns 97 = .ok (.goto (-70), 3) := by decide +kernel
theorem dX0_fitsSigns_100 : decode cX0_fitsSigns 100 = .ok (.iconst 1, 1) := by decide +kernel
theorem dX0_fitsSigns_101 : decode cX0_fitsSigns 101 = .ok (.ireturn, 1) := by decide +kernel
set_option maxRecDepth 20000 in
theorem ggX0_gatherAgreeing_X0_fitsSigns : GoodIn wsX0_gatherAgreeing wsX0_fitsSigns := goodIn_r _ [7, 8, 9, 10, 11, 12, 6, 13, 14, 15, 16, 17, 18, 19, 20, 21, 22, 23, 24, 25, 26, 27, 28, 29, 30, 31, 32, 33, 34, 35, 36, 37, 38, 39, 40, 41, 42, 43, 44, 45, 46, 47, 48, 49, 50, 51, 52, 53, 54, 55, 56, 57, 58, 59, 60, 61, 62, 63, 64, 65, 66, 67, 68, 69, 70, 71, 72, 73, 74, 75, 76, 77, 78, 79, 80, 81, 82, 83, 84, 85, 86, 87, 88, 89, 90, 91, 92, 93, 94, 95, 96, 97, 98, 99, 102, 103, 104, 105, 106, 107, 108, 109, 110, 111, 112, 113, 114, 115, 116, 117, 118, 119, 120, 121, 122, 123, 124, 125, 126, 127, 128] (by decide +kernel) (by decide +kernel)
set_option maxRecDepth 20000 in
theorem gX0_gatherAgreeing_X0_fitsSigns : GoodIn wsX0_gatherAgreeing (wsV RX0 96 RX0 yX0_fitsSigns wsX0_fitsSigns) := goodIn_app (goodIn_of _ (by decide +kernel)) ggX0_gatherAgreeing_X0_fitsSigns
set_option maxRecDepth 20000 in
theorem ggX0_gatherAgreeing_X5_put : GoodIn wsX0_gatherAgreeing wsX5_put := goodIn_r _ [101] (by decide +kernel) (by decide +kernel)
set_option maxRecDepth 20000 in
theorem gX0_gatherAgreeing_X5_put_n100 : GoodIn wsX0_gatherAgreeing (wsX5_put) := ggX0_gatherAgreeing_X5_put
theorem dX0_gatherAgreeing_0 : decode cX0_gatherAgreeing 0 = .ok (.aload_n 0, 1) := by decide +kernel
theorem dX0_gatherAgreeing_1 : decode cX0_gatherAgreeing 1 = .ok (.iconst 0, 1) := by decide +kernel
theorem dX0_gatherAgreeing_2 : decode cX0_gatherAgreeing 2 = .ok (.putfield 26, 3) := by decide +kernel
theorem dX0_gatherAgreeing_5 : decode cX0_gatherAgreeing 5 = .ok (.iconst 0, 1) := by decide +kernel
theorem dX0_gatherAgreeing_6 : decode cX0_gatherAgreeing 6 = .ok (.istore_n 1, 1) := by decide +kernel
theorem dX0_gatherAgreeing_7 : decode cX0_gatherAgreeing 7 = .ok (.iload_n 1, 1) := by decide +kernel
theorem dX0_gatherAgreeing_8 : decode cX0_gatherAgreeing 8 = .ok (.sipush 150, 3) := by decide +kernel
theorem dX0_gatherAgreeing_11 : decode cX0_gatherAgreeing 11 = .ok (.if_icmp .ge 39, 3) := by decide +kernel
theorem dX0_gatherAgreeing_14 : decode cX0_gatherAgreeing 14 = .ok (.aload_n 0, 1) := by decide +kernel
theorem dX0_gatherAgreeing_15 : decode cX0_gatherAgreeing 15 = .ok (.iload_n 1, 1) := by decide +kernel
theorem dX0_gatherAgreeing_16 : decode cX0_gatherAgreeing 16 = .ok (.invokevirtual 96, 3) := by decide +kernel
theorem dX0_gatherAgreeing_19 : decode cX0_gatherAgreeing 19 = .ok (.ifCond .eq 25, 3) := by decide +kernel
theorem dX0_gatherAgreeing_22 : decode cX0_gatherAgreeing 22 = .ok (.aload_n 0, 1) := by decide +kernel
theorem dX0_gatherAgreeing_23 : decode cX0_gatherAgreeing 23 = .ok (.getfield 11, 3) := by decide +kernel
theorem dX0_gatherAgreeing_26 : decode cX0_gatherAgreeing 26 = .ok (.aload_n 0, 1) := by decide +kernel
theorem dX0_gatherAgreeing_27 : decode cX0_gatherAgreeing 27 = .ok (.getfield 26, 3) := by decide +kernel
theorem dX0_gatherAgreeing_30 : decode cX0_gatherAgreeing 30 = .ok (.iload_n 1, 1) := by decide +kernel
theorem dX0_gatherAgreeing_31 : decode cX0_gatherAgreeing 31 = .ok (.invokestatic 100, 3) := by decide +kernel
theorem dX0_gatherAgreeing_34 : decode cX0_gatherAgreeing 34 = .ok (.aload_n 0, 1) := by decide +kernel
theorem dX0_gatherAgreeing_35 : decode cX0_gatherAgreeing 35 = .ok (.dup, 1) := by decide +kernel
theorem dX0_gatherAgreeing_36 : decode cX0_gatherAgreeing 36 = .ok (.getfield 26, 3) := by decide +kernel
theorem dX0_gatherAgreeing_39 : decode cX0_gatherAgreeing 39 = .ok (.iconst 1, 1) := by decide +kernel
theorem dX0_gatherAgreeing_40 : decode cX0_gatherAgreeing 40 = .ok (.iadd, 1) := by decide +kernel
theorem dX0_gatherAgreeing_41 : decode cX0_gatherAgreeing 41 = .ok (.putfield 26, 3) := by decide +kernel
theorem dX0_gatherAgreeing_44 : decode cX0_gatherAgreeing 44 = .ok (.iinc 1 1, 3) := by decide +kernel
theorem dX0_gatherAgreeing_47 : decode cX0_gatherAgreeing 47 = .ok (.goto (-40), 3) := by decide +kernel
theorem dX0_gatherAgreeing_50 : decode cX0_gatherAgreeing 50 = .ok (.return_, 1) := by decide +kernel
set_option maxRecDepth 20000 in
theorem ggX0_leastAgreeing_X5_at : GoodIn wsX0_leastAgreeing wsX5_at := goodIn_r _ [5] (by decide +kernel) (by decide +kernel)
set_option maxRecDepth 20000 in
theorem gX0_leastAgreeing_X5_at_n104 : GoodIn wsX0_leastAgreeing (wsX5_at) := ggX0_leastAgreeing_X5_at
theorem dX0_leastAgreeing_0 : decode cX0_leastAgreeing 0 = .ok (.aload_n 0, 1) := by decide +kernel
theorem dX0_leastAgreeing_1 : decode cX0_leastAgreeing 1 = .ok (.getfield 26, 3) := by decide +kernel
theorem dX0_leastAgreeing_4 : decode cX0_leastAgreeing 4 = .ok (.ifCond .le 14, 3) := by decide +kernel
theorem dX0_leastAgreeing_7 : decode cX0_leastAgreeing 7 = .ok (.aload_n 0, 1) := by decide +kernel
theorem dX0_leastAgreeing_8 : decode cX0_leastAgreeing 8 = .ok (.getfield 11, 3) := by decide +kernel
theorem dX0_leastAgreeing_11 : decode cX0_leastAgreeing 11 = .ok (.iconst 0, 1) := by decide +kernel
theorem dX0_leastAgreeing_12 : decode cX0_leastAgreeing 12 = .ok (.invokestatic 104, 3) := by decide +kernel
theorem dX0_leastAgreeing_15 : decode cX0_leastAgreeing 15 = .ok (.goto 5, 3) := by decide +kernel
theorem dX0_leastAgreeing_18 : decode cX0_leastAgreeing 18 = .ok (.bipush (-9), 2) := by decide +kernel
theorem dX0_leastAgreeing_20 : decode cX0_leastAgreeing 20 = .ok (.ireturn, 1) := by decide +kernel
set_option maxRecDepth 20000 in
theorem ggX0_isOdd_X5_at : GoodIn wsX0_isOdd wsX5_at := goodIn_r _ [5] (by decide +kernel) (by decide +kernel)
set_option maxRecDepth 20000 in
theorem gX0_isOdd_X5_at_n104 : GoodIn wsX0_isOdd (wsX5_at) := ggX0_isOdd_X5_at
set_option maxRecDepth 20000 in
theorem ggX0_isOdd_X0_oddOf : GoodIn wsX0_isOdd wsX0_oddOf := goodIn_r _ [9] (by decide +kernel) (by decide +kernel)
set_option maxRecDepth 20000 in
theorem gX0_isOdd_X0_oddOf : GoodIn wsX0_isOdd (va_wsS RX0 62 yX0_oddOf wsX0_oddOf) := goodIn_app (goodIn_of _ (by decide +kernel)) ggX0_isOdd_X0_oddOf
theorem dX0_isOdd_0 : decode cX0_isOdd 0 = .ok (.iconst 0, 1) := by decide +kernel
theorem dX0_isOdd_1 : decode cX0_isOdd 1 = .ok (.istore_n 1, 1) := by decide +kernel
theorem dX0_isOdd_2 : decode cX0_isOdd 2 = .ok (.iload_n 1, 1) := by decide +kernel
theorem dX0_isOdd_3 : decode cX0_isOdd 3 = .ok (.aload_n 0, 1) := by decide +kernel
theorem dX0_isOdd_4 : decode cX0_isOdd 4 = .ok (.getfield 26, 3) := by decide +kernel
theorem dX0_isOdd_7 : decode cX0_isOdd 7 = .ok (.if_icmp .ge 25, 3) := by decide +kernel
theorem dX0_isOdd_10 : decode cX0_isOdd 10 = .ok (.aload_n 0, 1) := by decide +kernel
theorem dX0_isOdd_11 : decode cX0_isOdd 11 = .ok (.getfield 11, 3) := by decide +kernel
theorem dX0_isOdd_14 : decode cX0_isOdd 14 = .ok (.iload_n 1, 1) := by decide +kernel
theorem dX0_isOdd_15 : decode cX0_isOdd 15 = .ok (.invokestatic 104, 3) := by decide +kernel
theorem dX0_isOdd_18 : decode cX0_isOdd 18 = .ok (.invokestatic 62, 3) := by decide +kernel
theorem dX0_isOdd_21 : decode cX0_isOdd 21 = .ok (.ifCond .ne 5, 3) := by decide +kernel
theorem dX0_isOdd_24 : decode cX0_isOdd 24 = .ok (.iconst 0, 1) := by decide +kernel
theorem dX0_isOdd_25 : decode cX0_isOdd 25 = .ok (.ireturn, 1) := by decide +kernel
theorem dX0_isOdd_26 : decode cX0_isOdd 26 = .ok (.iinc 1 1, 3) := by decide +kernel
theorem dX0_isOdd_29 : decode cX0_isOdd 29 = .ok (.goto (-27), 3) := by decide +kernel
theorem dX0_isOdd_32 : decode cX0_isOdd 32 = .ok (.aload_n 0, 1) := by decide +kernel
theorem dX0_isOdd_33 : decode cX0_isOdd 33 = .ok (.getfield 26, 3) := by decide +kernel
theorem dX0_isOdd_36 : decode cX0_isOdd 36 = .ok (.ifCond .le 7, 3) := by decide +kernel
theorem dX0_isOdd_39 : decode cX0_isOdd 39 = .ok (.iconst 1, 1) := by decide +kernel
theorem dX0_isOdd_40 : decode cX0_isOdd 40 = .ok (.goto 4, 3) := by decide +kernel
theorem dX0_isOdd_43 : decode cX0_isOdd 43 = .ok (.iconst 0, 1) := by decide +kernel
theorem dX0_isOdd_44 : decode cX0_isOdd 44 = .ok (.ireturn, 1) := by decide +kernel
set_option maxRecDepth 20000 in
theorem ggX0_dayThatTellsMost_X0_startAgreeing : GoodIn wsX0_dayThatTellsMost wsX0_startAgreeing := goodIn_r _ [7, 1, 8, 9, 10, 11, 12, 13, 14, 15, 16, 17, 6, 18, 19, 20, 21, 22, 23, 24, 25, 26, 27, 28, 29, 30, 31, 32, 33, 34, 35, 36, 37, 38, 39, 40, 41, 42, 43, 44, 45, 46, 47, 48, 49, 50, 51, 52, 53, 54, 55, 56, 57, 58, 59, 60, 61, 62, 63, 64, 65, 66, 97, 98, 99, 100, 101, 102, 103, 104, 105, 106, 107, 108, 109, 110, 111, 112, 113, 114, 115, 116, 117, 118, 119] (by decide +kernel) (by decide +kernel)
set_option maxRecDepth 20000 in
theorem gX0_dayThatTellsMost_X0_startAgreeing : GoodIn wsX0_dayThatTellsMost (wsV RX0 108 RX0 yX0_startAgreeing wsX0_startAgreeing) := goodIn_app (goodIn_of _ (by decide +kernel)) ggX0_dayThatTellsMost_X0_startAgreeing
set_option maxRecDepth 20000 in
theorem ggX0_dayThatTellsMost_X0_greatestAtOneLevel : GoodIn wsX0_dayThatTellsMost wsX0_greatestAtOneLevel := goodIn_r _ [70, 2, 1, 11, 10, 71, 49, 50, 51, 12, 13, 14, 72, 73, 74, 64, 75, 76, 54, 55, 77, 62, 63, 65, 66, 59, 60, 97, 98, 99, 100, 101, 102, 103, 104, 105, 106, 107, 108, 109, 110] (by decide +kernel) (by decide +kernel)
set_option maxRecDepth 20000 in
theorem gX0_dayThatTellsMost_X0_greatestAtOneLevel : GoodIn wsX0_dayThatTellsMost (wsV RX0 111 RX0 yX0_greatestAtOneLevel wsX0_greatestAtOneLevel) := goodIn_app (goodIn_of _ (by decide +kernel)) ggX0_dayThatTellsMost_X0_greatestAtOneLevel
set_option maxRecDepth 20000 in
theorem ggX0_dayThatTellsMost_X5_at : GoodIn wsX0_dayThatTellsMost wsX5_at := goodIn_r _ [14] (by decide +kernel) (by decide +kernel)
set_option maxRecDepth 20000 in
theorem gX0_dayThatTellsMost_X5_at_n104 : GoodIn wsX0_dayThatTellsMost (wsX5_at) := ggX0_dayThatTellsMost_X5_at
set_option maxRecDepth 20000 in
theorem ggX0_dayThatTellsMost_X0_passDay : GoodIn wsX0_dayThatTellsMost wsX0_passDay := goodIn_r _ [81, 11, 1, 9, 10, 8, 82, 83, 84, 64, 85, 86, 87, 88, 12, 13, 14, 89, 90, 91, 6, 92, 93, 94, 95, 96, 59, 60, 97, 98, 99, 100, 101, 102, 103, 104, 105, 106, 107, 108, 109, 110] (by decide +kernel) (by decide +kernel)
set_option maxRecDepth 20000 in
theorem gX0_dayThatTellsMost_X0_passDay : GoodIn wsX0_dayThatTellsMost (wsV RX0 114 RX0 yX0_passDay wsX0_passDay) := goodIn_app (goodIn_of _ (by decide +kernel)) ggX0_dayThatTellsMost_X0_passDay
theorem dX0_dayThatTellsMost_0 : decode cX0_dayThatTellsMost 0 = .ok (.aload_n 0, 1) := by decide +kernel
theorem dX0_dayThatTellsMost_1 : decode cX0_dayThatTellsMost 1 = .ok (.getfield 26, 3) := by decide +kernel
theorem dX0_dayThatTellsMost_4 : decode cX0_dayThatTellsMost 4 = .ok (.iconst 2, 1) := by decide +kernel
theorem dX0_dayThatTellsMost_5 : decode cX0_dayThatTellsMost 5 = .ok (.if_icmp .ge 6, 3) := by decide +kernel
theorem dX0_dayThatTellsMost_8 : decode cX0_dayThatTellsMost 8 = .ok (.bipush (-9), 2) := by decide +kernel
theorem dX0_dayThatTellsMost_10 : decode cX0_dayThatTellsMost 10 = .ok (.ireturn, 1) := by decide +kernel
theorem dX0_dayThatTellsMost_11 : decode cX0_dayThatTellsMost 11 = .ok (.aload_n 0, 1) := by decide +kernel
theorem dX0_dayThatTellsMost_12 : decode cX0_dayThatTellsMost 12 = .ok (.invokevirtual 108, 3) := by decide +kernel
theorem dX0_dayThatTellsMost_15 : decode cX0_dayThatTellsMost 15 = .ok (.iconst 0, 1) := by decide +kernel
theorem dX0_dayThatTellsMost_16 : decode cX0_dayThatTellsMost 16 = .ok (.istore_n 1, 1) := by decide +kernel
theorem dX0_dayThatTellsMost_17 : decode cX0_dayThatTellsMost 17 = .ok (.sipush 151, 3) := by decide +kernel
theorem dX0_dayThatTellsMost_20 : decode cX0_dayThatTellsMost 20 = .ok (.istore_n 2, 1) := by decide +kernel
theorem dX0_dayThatTellsMost_21 : decode cX0_dayThatTellsMost 21 = .ok (.iconst 0, 1) := by decide +kernel
theorem dX0_dayThatTellsMost_22 : decode cX0_dayThatTellsMost 22 = .ok (.istore_n 3, 1) := by decide +kernel
theorem dX0_dayThatTellsMost_23 : decode cX0_dayThatTellsMost 23 = .ok (.iload_n 3, 1) := by decide +kernel
theorem dX0_dayThatTellsMost_24 : decode cX0_dayThatTellsMost 24 = .ok (.sipush 400, 3) := by decide +kernel
theorem dX0_dayThatTellsMost_27 : decode cX0_dayThatTellsMost 27 = .ok (.if_icmp .ge 49, 3) := by decide +kernel
theorem dX0_dayThatTellsMost_30 : decode cX0_dayThatTellsMost 30 = .ok (.aload_n 0, 1) := by decide +kernel
theorem dX0_dayThatTellsMost_31 : decode cX0_dayThatTellsMost 31 = .ok (.invokevirtual 111, 3) := by decide +kernel
theorem dX0_dayThatTellsMost_34 : decode cX0_dayThatTellsMost 34 = .ok (.istore 4, 2) := by decide +kernel
theorem dX0_dayThatTellsMost_36 : decode cX0_dayThatTellsMost 36 = .ok (.iload 4, 2) := by decide +kernel
theorem dX0_dayThatTellsMost_38 : decode cX0_dayThatTellsMost 38 = .ok (.iload_n 2, 1) := by decide +kernel
theorem dX0_dayThatTellsMost_39 : decode cX0_dayThatTellsMost 39 = .ok (.if_icmp .ge 8, 3) := by decide +kernel
theorem dX0_dayThatTellsMost_42 : decode cX0_dayThatTellsMost 42 = .ok (.iload 4, 2) := by decide +kernel
theorem dX0_dayThatTellsMost_44 : decode cX0_dayThatTellsMost 44 = .ok (.istore_n 2, 1) := by decide +kernel
theorem dX0_dayThatTellsMost_45 : decode cX0_dayThatTellsMost 45 = .ok (.iload_n 3, 1) := by decide +kernel
theorem dX0_dayThatTellsMost_46 : decode cX0_dayThatTellsMost 46 = .ok (.istore_n 1, 1) := by decide +kernel
theorem dX0_dayThatTellsMost_47 : decode cX0_dayThatTellsMost 47 = .ok (.aload_n 0, 1) := by decide +kernel
theorem dX0_dayThatTellsMost_48 : decode cX0_dayThatTellsMost 48 = .ok (.getfield 23, 3) := by decide +kernel
theorem dX0_dayThatTellsMost_51 : decode cX0_dayThatTellsMost 51 = .ok (.iconst 0, 1) := by decide +kernel
theorem dX0_dayThatTellsMost_52 : decode cX0_dayThatTellsMost 52 = .ok (.invokestatic 104, 3) := by decide +kernel
theorem dX0_dayThatTellsMost_55 : decode cX0_dayThatTellsMost 55 = .ok (.aload_n 0, 1) := by decide +kernel
theorem dX0_dayThatTellsMost_56 : decode cX0_dayThatTellsMost 56 = .ok (.getfield 26, 3) := by decide +kernel
theorem dX0_dayThatTellsMost_59 : decode cX0_dayThatTellsMost 59 = .ok (.if_icmp .ne 6, 3) := by decide +kernel
theorem dX0_dayThatTellsMost_62 : decode cX0_dayThatTellsMost 62 = .ok (.goto 14, 3) := by decide +kernel
theorem dX0_dayThatTellsMost_65 : decode cX0_dayThatTellsMost 65 = .ok (.aload_n 0, 1) := by decide +kernel
theorem dX0_dayThatTellsMost_66 : decode cX0_dayThatTellsMost 66 = .ok (.iload_n 3, 1) := by decide +kernel
theorem dX0_dayThatTellsMost_67 : decode cX0_dayThatTellsMost 67 = .ok (.invokevirtual 114, 3) := by decide +kernel
theorem dX0_dayThatTellsMost_70 : decode cX0_dayThatTellsMost 70 = .ok (.iinc 3 1, 3) := by decide +kernel
theorem dX0_dayThatTellsMost_73 : decode cX0_dayThatTellsMost 73 = .ok (.goto (-50), 3) := by decide +kernel
theorem dX0_dayThatTellsMost_76 : decode cX0_dayThatTellsMost 76 = .ok (.iload_n 1, 1) := by decide +kernel
theorem dX0_dayThatTellsMost_77 : decode cX0_dayThatTellsMost 77 = .ok (.ireturn, 1) := by decide +kernel
set_option maxRecDepth 20000 in
theorem ggX0_startAgreeing_X5_at : GoodIn wsX0_startAgreeing wsX5_at := goodIn_r _ [8] (by decide +kernel) (by decide +kernel)
set_option maxRecDepth 20000 in
theorem gX0_startAgreeing_X5_at_n104 : GoodIn wsX0_startAgreeing (wsX5_at) := ggX0_startAgreeing_X5_at
set_option maxRecDepth 20000 in
theorem ggX0_startAgreeing_X0_loadOfCase : GoodIn wsX0_startAgreeing wsX0_loadOfCase := goodIn_r _ [13, 14, 5, 15, 16, 17, 18, 19, 20, 21, 22, 23, 24, 25, 26, 27, 28, 29, 30, 31, 32, 33, 34, 35, 36, 37, 38, 39, 40, 41, 42, 43, 44, 45, 46, 47, 48, 49, 50, 51, 52, 12, 53, 62, 63, 64, 65, 66, 67, 68, 69, 70, 71, 72, 73, 74, 75, 76, 77, 78, 79, 80, 81, 82, 83, 84] (by decide +kernel) (by decide +kernel)
set_option maxRecDepth 20000 in
theorem gX0_startAgreeing_X0_loadOfCase : GoodIn wsX0_startAgreeing (wsV RX0 69 RX0 yX0_loadOfCase wsX0_loadOfCase) := goodIn_app (goodIn_of _ (by decide +kernel)) ggX0_startAgreeing_X0_loadOfCase
set_option maxRecDepth 20000 in
theorem ggX0_startAgreeing_X5_put : GoodIn wsX0_startAgreeing wsX5_put := goodIn_r _ [55] (by decide +kernel) (by decide +kernel)
set_option maxRecDepth 20000 in
theorem gX0_startAgreeing_X5_put_n100 : GoodIn wsX0_startAgreeing (wsX5_put) := ggX0_startAgreeing_X5_put
set_option maxRecDepth 20000 in
theorem ggX0_startAgreeing_X1_chargeAtFirst : GoodIn wsX0_startAgreeing wsX1_chargeAtFirst := goodIn_r _ [60, 61, 70, 71, 72, 73, 74, 75] (by decide +kernel) (by decide +kernel)
set_option maxRecDepth 20000 in
theorem gX0_startAgreeing_X1_chargeAtFirst : GoodIn wsX0_startAgreeing (wsV RX0 78 RX1 yX1_chargeAtFirst wsX1_chargeAtFirst) := goodIn_app (goodIn_of _ (by decide +kernel)) ggX0_startAgreeing_X1_chargeAtFirst
theorem dX0_startAgreeing_0 : decode cX0_startAgreeing 0 = .ok (.iconst 0, 1) := by decide +kernel
theorem dX0_startAgreeing_1 : decode cX0_startAgreeing 1 = .ok (.istore_n 1, 1) := by decide +kernel
theorem dX0_startAgreeing_2 : decode cX0_startAgreeing 2 = .ok (.iload_n 1, 1) := by decide +kernel
theorem dX0_startAgreeing_3 : decode cX0_startAgreeing 3 = .ok (.aload_n 0, 1) := by decide +kernel
theorem dX0_startAgreeing_4 : decode cX0_startAgreeing 4 = .ok (.getfield 26, 3) := by decide +kernel
theorem dX0_startAgreeing_7 : decode cX0_startAgreeing 7 = .ok (.if_icmp .ge 44, 3) := by decide +kernel
theorem dX0_startAgreeing_10 : decode cX0_startAgreeing 10 = .ok (.aload_n 0, 1) := by decide +kernel
theorem dX0_startAgreeing_11 : decode cX0_startAgreeing 11 = .ok (.getfield 15, 3) := by decide +kernel
theorem dX0_startAgreeing_14 : decode cX0_startAgreeing 14 = .ok (.iload_n 1, 1) := by decide +kernel
theorem dX0_startAgreeing_15 : decode cX0_startAgreeing 15 = .ok (.aload_n 0, 1) := by decide +kernel
theorem dX0_startAgreeing_16 : decode cX0_startAgreeing 16 = .ok (.aload_n 0, 1) := by decide +kernel
theorem dX0_startAgreeing_17 : decode cX0_startAgreeing 17 = .ok (.getfield 11, 3) := by decide +kernel
theorem dX0_startAgreeing_20 : decode cX0_startAgreeing 20 = .ok (.iload_n 1, 1) := by decide +kernel
theorem dX0_startAgreeing_21 : decode cX0_startAgreeing 21 = .ok (.invokestatic 104, 3) := by decide +kernel
theorem dX0_startAgreeing_24 : decode cX0_startAgreeing 24 = .ok (.invokevirtual 69, 3) := by decide +kernel
theorem dX0_startAgreeing_27 : decode cX0_startAgreeing 27 = .ok (.invokestatic 100, 3) := by decide +kernel
theorem dX0_startAgreeing_30 : decode cX0_startAgreeing 30 = .ok (.aload_n 0, 1) := by decide +kernel
theorem dX0_startAgreeing_31 : decode cX0_startAgreeing 31 = .ok (.getfield 18, 3) := by decide +kernel
theorem dX0_startAgreeing_34 : decode cX0_startAgreeing 34 = .ok (.iload_n 1, 1) := by decide +kernel
theorem dX0_startAgreeing_35 : decode cX0_startAgreeing 35 = .ok (.aload_n 0, 1) := by decide +kernel
theorem dX0_startAgreeing_36 : decode cX0_startAgreeing 36 = .ok (.getfield 30, 3) := by decide +kernel
theorem dX0_startAgreeing_39 : decode cX0_startAgreeing 39 = .ok (.invokevirtual 78, 3) := by decide +kernel
theorem dX0_startAgreeing_42 : decode cX0_startAgreeing 42 = .ok (.invokestatic 100, 3) := by decide +kernel
theorem dX0_startAgreeing_45 : decode cX0_startAgreeing 45 = .ok (.iinc 1 1, 3) := by decide +kernel
theorem dX0_startAgreeing_48 : decode cX0_startAgreeing 48 = .ok (.goto (-46), 3) := by decide +kernel
theorem dX0_startAgreeing_51 : decode cX0_startAgreeing 51 = .ok (.return_, 1) := by decide +kernel
set_option maxRecDepth 20000 in
theorem ggX0_greatestAtOneLevel_X5_at : GoodIn wsX0_greatestAtOneLevel wsX5_at := goodIn_r _ [11] (by decide +kernel) (by decide +kernel)
set_option maxRecDepth 20000 in
theorem gX0_greatestAtOneLevel_X5_at_n104 : GoodIn wsX0_greatestAtOneLevel (wsX5_at) := ggX0_greatestAtOneLevel_X5_at
set_option maxRecDepth 20000 in
theorem ggX0_greatestAtOneLevel_X1_levelOf : GoodIn wsX0_greatestAtOneLevel wsX1_levelOf := goodIn_r _ [16, 17, 18, 7, 19, 20, 21, 22, 15, 23, 24, 35, 36, 37, 38, 39, 40] (by decide +kernel) (by decide +kernel)
set_option maxRecDepth 20000 in
theorem gX0_greatestAtOneLevel_X1_levelOf : GoodIn wsX0_greatestAtOneLevel (wsV RX0 75 RX1 yX1_levelOf wsX1_levelOf) := goodIn_app (goodIn_of _ (by decide +kernel)) ggX0_greatestAtOneLevel_X1_levelOf
set_option maxRecDepth 20000 in
theorem ggX0_greatestAtOneLevel_X5_put : GoodIn wsX0_greatestAtOneLevel wsX5_put := goodIn_r _ [26] (by decide +kernel) (by decide +kernel)
set_option maxRecDepth 20000 in
theorem gX0_greatestAtOneLevel_X5_put_n100 : GoodIn wsX0_greatestAtOneLevel (wsX5_put) := ggX0_greatestAtOneLevel_X5_put
theorem dX0_greatestAtOneLevel_0 : decode cX0_greatestAtOneLevel 0 = .ok (.iconst 0, 1) := by decide +kernel
theorem dX0_greatestAtOneLevel_1 : decode cX0_greatestAtOneLevel 1 = .ok (.istore_n 1, 1) := by decide +kernel
theorem dX0_greatestAtOneLevel_2 : decode cX0_greatestAtOneLevel 2 = .ok (.iload_n 1, 1) := by decide +kernel
theorem dX0_greatestAtOneLevel_3 : decode cX0_greatestAtOneLevel 3 = .ok (.aload_n 0, 1) := by decide +kernel
theorem dX0_greatestAtOneLevel_4 : decode cX0_greatestAtOneLevel 4 = .ok (.getfield 23, 3) := by decide +kernel
theorem dX0_greatestAtOneLevel_7 : decode cX0_greatestAtOneLevel 7 = .ok (.arraylength, 1) := by decide +kernel
theorem dX0_greatestAtOneLevel_8 : decode cX0_greatestAtOneLevel 8 = .ok (.if_icmp .ge 16, 3) := by decide +kernel
theorem dX0_greatestAtOneLevel_11 : decode cX0_greatestAtOneLevel 11 = .ok (.aload_n 0, 1) := by decide +kernel
theorem dX0_greatestAtOneLevel_12 : decode cX0_greatestAtOneLevel 12 = .ok (.getfield 23, 3) := by decide +kernel
theorem dX0_greatestAtOneLevel_15 : decode cX0_greatestAtOneLevel 15 = .ok (.iload_n 1, 1) := by decide +kernel
theorem dX0_greatestAtOneLevel_16 : decode cX0_greatestAtOneLevel 16 = .ok (.iconst 0, 1) := by decide +kernel
theorem dX0_greatestAtOneLevel_17 : decode cX0_greatestAtOneLevel 17 = .ok (.iastore, 1) := by decide +kernel
theorem dX0_greatestAtOneLevel_18 : decode cX0_greatestAtOneLevel 18 = .ok (.iinc 1 1, 3) := by decide +kernel
theorem dX0_greatestAtOneLevel_21 : decode cX0_greatestAtOneLevel 21 = .ok (.goto (-19), 3) := by decide +kernel
theorem dX0_greatestAtOneLevel_24 : decode cX0_greatestAtOneLevel 24 = .ok (.iconst 0, 1) := by decide +kernel
theorem dX0_greatestAtOneLevel_25 : decode cX0_greatestAtOneLevel 25 = .ok (.istore_n 1, 1) := by decide +kernel
theorem dX0_greatestAtOneLevel_26 : decode cX0_greatestAtOneLevel 26 = .ok (.iconst 0, 1) := by decide +kernel
theorem dX0_greatestAtOneLevel_27 : decode cX0_greatestAtOneLevel 27 = .ok (.istore_n 2, 1) := by decide +kernel
theorem dX0_greatestAtOneLevel_28 : decode cX0_greatestAtOneLevel 28 = .ok (.iload_n 2, 1) := by decide +kernel
theorem dX0_greatestAtOneLevel_29 : decode cX0_greatestAtOneLevel 29 = .ok (.aload_n 0, 1) := by decide +kernel
theorem dX0_greatestAtOneLevel_30 : decode cX0_greatestAtOneLevel 30 = .ok (.getfield 26, 3) := by decide +kernel
theorem dX0_greatestAtOneLevel_33 : decode cX0_greatestAtOneLevel 33 = .ok (.if_icmp .ge 54, 3) := by decide +kernel
theorem dX0_greatestAtOneLevel_36 : decode cX0_greatestAtOneLevel 36 = .ok (.aload_n 0, 1) := by decide +kernel
theorem dX0_greatestAtOneLevel_37 : decode cX0_greatestAtOneLevel 37 = .ok (.getfield 30, 3) := by decide +kernel
theorem dX0_greatestAtOneLevel_40 : decode cX0_greatestAtOneLevel 40 = .ok (.aload_n 0, 1) := by decide +kernel
theorem dX0_greatestAtOneLevel_41 : decode cX0_greatestAtOneLevel 41 = .ok (.getfield 18, 3) := by decide +kernel
theorem dX0_greatestAtOneLevel_44 : decode cX0_greatestAtOneLevel 44 = .ok (.iload_n 2, 1) := by decide +kernel
theorem dX0_greatestAtOneLevel_45 : decode cX0_greatestAtOneLevel 45 = .ok (.invokestatic 104, 3) := by decide +kernel
theorem dX0_greatestAtOneLevel_48 : decode cX0_greatestAtOneLevel 48 = .ok (.invokevirtual 75, 3) := by decide +kernel
theorem dX0_greatestAtOneLevel_51 : decode cX0_greatestAtOneLevel 51 = .ok (.istore_n 3, 1) := by decide +kernel
theorem dX0_greatestAtOneLevel_52 : decode cX0_greatestAtOneLevel 52 = .ok (.aload_n 0, 1) := by decide +kernel
theorem dX0_greatestAtOneLevel_53 : decode cX0_greatestAtOneLevel 53 = .ok (.getfield 23, 3) := by decide +kernel
theorem dX0_greatestAtOneLevel_56 : decode cX0_greatestAtOneLevel 56 = .ok (.iload_n 3, 1) := by decide +kernel
theorem dX0_greatestAtOneLevel_57 : decode cX0_greatestAtOneLevel 57 = .ok (.invokestatic 104, 3) := by decide +kernel
theorem dX0_greatestAtOneLevel_60 : decode cX0_greatestAtOneLevel 60 = .ok (.iconst 1, 1) := by decide +kernel
theorem dX0_greatestAtOneLevel_61 : decode cX0_greatestAtOneLevel 61 = .ok (.iadd, 1) := by decide +kernel
theorem dX0_greatestAtOneLevel_62 : decode cX0_greatestAtOneLevel 62 = .ok (.istore 4, 2) := by decide +kernel
theorem dX0_greatestAtOneLevel_64 : decode cX0_greatestAtOneLevel 64 = .ok (.aload_n 0, 1) := by decide +kernel
theorem dX0_greatestAtOneLevel_65 : decode cX0_greatestAtOneLevel 65 = .ok (.getfield 23, 3) := by decide +kernel
theorem dX0_greatestAtOneLevel_68 : decode cX0_greatestAtOneLevel 68 = .ok (.iload_n 3, 1) := by decide +kernel
theorem dX0_greatestAtOneLevel_69 : decode cX0_greatestAtOneLevel 69 = .ok (.iload 4, 2) := by decide +kernel
theorem dX0_greatestAtOneLevel_71 : decode cX0_greatestAtOneLevel 71 = .ok (.invokestatic 100, 3) := by decide +kernel
theorem dX0_greatestAtOneLevel_74 : decode cX0_greatestAtOneLevel 74 = .ok (.iload_n 1, 1) := by decide +kernel
theorem dX0_greatestAtOneLevel_75 : decode cX0_greatestAtOneLevel 75 = .ok (.iload 4, 2) := by decide +kernel
theorem dX0_greatestAtOneLevel_77 : decode cX0_greatestAtOneLevel 77 = .ok (.invokestatic 118, 3) := by decide +kernel
theorem dX0_greatestAtOneLevel_80 : decode cX0_greatestAtOneLevel 80 = .ok (.istore_n 1, 1) := by decide +kernel
theorem dX0_greatestAtOneLevel_81 : decode cX0_greatestAtOneLevel 81 = .ok (.iinc 2 1, 3) := by decide +kernel
theorem dX0_greatestAtOneLevel_84 : decode cX0_greatestAtOneLevel 84 = .ok (.goto (-56), 3) := by decide +kernel
theorem dX0_greatestAtOneLevel_87 : decode cX0_greatestAtOneLevel 87 = .ok (.iload_n 1, 1) := by decide +kernel
theorem dX0_greatestAtOneLevel_88 : decode cX0_greatestAtOneLevel 88 = .ok (.ireturn, 1) := by decide +kernel
set_option maxRecDepth 20000 in
theorem ggX0_passDay_X1_shareOn : GoodIn wsX0_passDay wsX1_shareOn := goodIn_r _ [10, 11, 12, 13, 14, 15, 16, 36, 37, 38, 39, 40, 41] (by decide +kernel) (by decide +kernel)
set_option maxRecDepth 20000 in
theorem gX0_passDay_X1_shareOn : GoodIn wsX0_passDay (wsV RX0 124 RX1 yX1_shareOn wsX1_shareOn) := goodIn_app (goodIn_of _ (by decide +kernel)) ggX0_passDay_X1_shareOn
set_option maxRecDepth 20000 in
theorem ggX0_passDay_X5_at : GoodIn wsX0_passDay wsX5_at := goodIn_r _ [16] (by decide +kernel) (by decide +kernel)
set_option maxRecDepth 20000 in
theorem gX0_passDay_X5_at_n104 : GoodIn wsX0_passDay (wsX5_at) := ggX0_passDay_X5_at
set_option maxRecDepth 20000 in
theorem ggX0_passDay_X0_leakOf : GoodIn wsX0_passDay wsX0_leakOf := goodIn_r _ [21, 1, 28, 29, 30, 31, 32, 33, 34, 35, 36, 37, 38, 39, 40, 41] (by decide +kernel) (by decide +kernel)
set_option maxRecDepth 20000 in
theorem gX0_passDay_X0_leakOf : GoodIn wsX0_passDay (wsV RX0 66 RX0 yX0_leakOf wsX0_leakOf) := goodIn_app (goodIn_of _ (by decide +kernel)) ggX0_passDay_X0_leakOf
set_option maxRecDepth 20000 in
theorem ggX0_passDay_X1_chargeBehind : GoodIn wsX0_passDay wsX1_chargeBehind := goodIn_r _ [25] (by decide +kernel) (by decide +kernel)
set_option maxRecDepth 20000 in
theorem gX0_passDay_X1_chargeBehind : GoodIn wsX0_passDay (wsV RX0 127 RX1 yX1_chargeBehind wsX1_chargeBehind) := goodIn_app (goodIn_of _ (by decide +kernel)) ggX0_passDay_X1_chargeBehind
set_option maxRecDepth 20000 in
theorem ggX0_passDay_X5_put : GoodIn wsX0_passDay wsX5_put := goodIn_r _ [27] (by decide +kernel) (by decide +kernel)
set_option maxRecDepth 20000 in
theorem gX0_passDay_X5_put_n100 : GoodIn wsX0_passDay (wsX5_put) := ggX0_passDay_X5_put
theorem dX0_passDay_0 : decode cX0_passDay 0 = .ok (.aload_n 0, 1) := by decide +kernel
theorem dX0_passDay_1 : decode cX0_passDay 1 = .ok (.getfield 30, 3) := by decide +kernel
theorem dX0_passDay_4 : decode cX0_passDay 4 = .ok (.iload_n 1, 1) := by decide +kernel
theorem dX0_passDay_5 : decode cX0_passDay 5 = .ok (.invokevirtual 124, 3) := by decide +kernel
theorem dX0_passDay_8 : decode cX0_passDay 8 = .ok (.istore_n 2, 1) := by decide +kernel
theorem dX0_passDay_9 : decode cX0_passDay 9 = .ok (.iconst 0, 1) := by decide +kernel
theorem dX0_passDay_10 : decode cX0_passDay 10 = .ok (.istore_n 3, 1) := by decide +kernel
theorem dX0_passDay_11 : decode cX0_passDay 11 = .ok (.iload_n 3, 1) := by decide +kernel
theorem dX0_passDay_12 : decode cX0_passDay 12 = .ok (.aload_n 0, 1) := by decide +kernel
theorem dX0_passDay_13 : decode cX0_passDay 13 = .ok (.getfield 26, 3) := by decide +kernel
theorem dX0_passDay_16 : decode cX0_passDay 16 = .ok (.if_icmp .ge 57, 3) := by decide +kernel
theorem dX0_passDay_19 : decode cX0_passDay 19 = .ok (.aload_n 0, 1) := by decide +kernel
theorem dX0_passDay_20 : decode cX0_passDay 20 = .ok (.aload_n 0, 1) := by decide +kernel
theorem dX0_passDay_21 : decode cX0_passDay 21 = .ok (.getfield 11, 3) := by decide +kernel
theorem dX0_passDay_24 : decode cX0_passDay 24 = .ok (.iload_n 3, 1) := by decide +kernel
theorem dX0_passDay_25 : decode cX0_passDay 25 = .ok (.invokestatic 104, 3) := by decide +kernel
theorem dX0_passDay_28 : decode cX0_passDay 28 = .ok (.invokevirtual 66, 3) := by decide +kernel
theorem dX0_passDay_31 : decode cX0_passDay 31 = .ok (.istore 4, 2) := by decide +kernel
theorem dX0_passDay_33 : decode cX0_passDay 33 = .ok (.aload_n 0, 1) := by decide +kernel
theorem dX0_passDay_34 : decode cX0_passDay 34 = .ok (.getfield 18, 3) := by decide +kernel
theorem dX0_passDay_37 : decode cX0_passDay 37 = .ok (.iload_n 3, 1) := by decide +kernel
theorem dX0_passDay_38 : decode cX0_passDay 38 = .ok (.aload_n 0, 1) := by decide +kernel
theorem dX0_passDay_39 : decode cX0_passDay 39 = .ok (.getfield 30, 3) := by decide +kernel
theorem dX0_passDay_42 : decode cX0_passDay 42 = .ok (.aload_n 0, 1) := by decide +kernel
theorem dX0_passDay_43 : decode cX0_passDay 43 = .ok (.getfield 18, 3) := by decide +kernel
theorem dX0_passDay_46 : decode cX0_passDay 46 = .ok (.iload_n 3, 1) := by decide +kernel
theorem dX0_passDay_47 : decode cX0_passDay 47 = .ok (.invokestatic 104, 3) := by decide +kernel
theorem dX0_passDay_50 : decode cX0_passDay 50 = .ok (.iload_n 2, 1) := by decide +kernel
theorem dX0_passDay_51 : decode cX0_passDay 51 = .ok (.iload 4, 2) := by decide +kernel
theorem dX0_passDay_53 : decode cX0_passDay 53 = .ok (.aload_n 0, 1) := by decide +kernel
theorem dX0_passDay_54 : decode cX0_passDay 54 = .ok (.getfield 15, 3) := by decide +kernel
theorem dX0_passDay_57 : decode cX0_passDay 57 = .ok (.iload_n 3, 1) := by decide +kernel
theorem dX0_passDay_58 : decode cX0_passDay 58 = .ok (.invokestatic 104, 3) := by decide +kernel
theorem dX0_passDay_61 : decode cX0_passDay 61 = .ok (.invokevirtual 127, 3) := by decide +kernel
theorem dX0_passDay_64 : decode cX0_passDay 64 = .ok (.invokestatic 100, 3) := by decide +kernel
theorem dX0_passDay_67 : decode cX0_passDay 67 = .ok (.iinc 3 1, 3) := by decide +kernel
theorem dX0_passDay_70 : decode cX0_passDay 70 = .ok (.goto (-59), 3) := by decide +kernel
theorem dX0_passDay_73 : decode cX0_passDay 73 = .ok (.return_, 1) := by decide +kernel
theorem dX1_init_0 : decode cX1_init 0 = .ok (.aload_n 0, 1) := by decide +kernel
theorem dX1_init_1 : decode cX1_init 1 = .ok (.invokespecial 3, 3) := by decide +kernel
theorem dX1_init_4 : decode cX1_init 4 = .ok (.aload_n 0, 1) := by decide +kernel
theorem dX1_init_5 : decode cX1_init 5 = .ok (.iconst 3, 1) := by decide +kernel
theorem dX1_init_6 : decode cX1_init 6 = .ok (.newarray .int, 2) := by decide +kernel
theorem dX1_init_8 : decode cX1_init 8 = .ok (.dup, 1) := by decide +kernel
theorem dX1_init_9 : decode cX1_init 9 = .ok (.iconst 0, 1) := by decide +kernel
theorem dX1_init_10 : decode cX1_init 10 = .ok (.bipush 100, 2) := by decide +kernel
theorem dX1_init_12 : decode cX1_init 12 = .ok (.iastore, 1) := by decide +kernel
theorem dX1_init_13 : decode cX1_init 13 = .ok (.dup, 1) := by decide +kernel
theorem dX1_init_14 : decode cX1_init 14 = .ok (.iconst 1, 1) := by decide +kernel
theorem dX1_init_15 : decode cX1_init 15 = .ok (.bipush 90, 2) := by decide +kernel
theorem dX1_init_17 : decode cX1_init 17 = .ok (.iastore, 1) := by decide +kernel
theorem dX1_init_18 : decode cX1_init 18 = .ok (.dup, 1) := by decide +kernel
theorem dX1_init_19 : decode cX1_init 19 = .ok (.iconst 2, 1) := by decide +kernel
theorem dX1_init_20 : decode cX1_init 20 = .ok (.bipush 70, 2) := by decide +kernel
theorem dX1_init_22 : decode cX1_init 22 = .ok (.iastore, 1) := by decide +kernel
theorem dX1_init_23 : decode cX1_init 23 = .ok (.putfield 9, 3) := by decide +kernel
theorem dX1_init_26 : decode cX1_init 26 = .ok (.aload_n 0, 1) := by decide +kernel
theorem dX1_init_27 : decode cX1_init 27 = .ok (.bipush 12, 2) := by decide +kernel
theorem dX1_init_29 : decode cX1_init 29 = .ok (.newarray .int, 2) := by decide +kernel
theorem dX1_init_31 : decode cX1_init 31 = .ok (.putfield 15, 3) := by decide +kernel
theorem dX1_init_34 : decode cX1_init 34 = .ok (.aload_n 0, 1) := by decide +kernel
theorem dX1_init_35 : decode cX1_init 35 = .ok (.iconst 1, 1) := by decide +kernel
theorem dX1_init_36 : decode cX1_init 36 = .ok (.putfield 18, 3) := by decide +kernel
theorem dX1_init_39 : decode cX1_init 39 = .ok (.aload_n 0, 1) := by decide +kernel
theorem dX1_init_40 : decode cX1_init 40 = .ok (.sipush 1000, 3) := by decide +kernel
theorem dX1_init_43 : decode cX1_init 43 = .ok (.putfield 22, 3) := by decide +kernel
theorem dX1_init_46 : decode cX1_init 46 = .ok (.aload_n 0, 1) := by decide +kernel
theorem dX1_init_47 : decode cX1_init 47 = .ok (.iconst 1, 1) := by decide +kernel
theorem dX1_init_48 : decode cX1_init 48 = .ok (.putfield 25, 3) := by decide +kernel
theorem dX1_init_51 : decode cX1_init 51 = .ok (.aload_n 0, 1) := by decide +kernel
theorem dX1_init_52 : decode cX1_init 52 = .ok (.bipush 50, 2) := by decide +kernel
theorem dX1_init_54 : decode cX1_init 54 = .ok (.putfield 28, 3) := by decide +kernel
theorem dX1_init_57 : decode cX1_init 57 = .ok (.return_, 1) := by decide +kernel
theorem dX1_changeRoom_0 : decode cX1_changeRoom 0 = .ok (.aload_n 0, 1) := by decide +kernel
theorem dX1_changeRoom_1 : decode cX1_changeRoom 1 = .ok (.getfield 22, 3) := by decide +kernel
theorem dX1_changeRoom_4 : decode cX1_changeRoom 4 = .ok (.istore_n 2, 1) := by decide +kernel
theorem dX1_changeRoom_5 : decode cX1_changeRoom 5 = .ok (.aload_n 0, 1) := by decide +kernel
theorem dX1_changeRoom_6 : decode cX1_changeRoom 6 = .ok (.iload_n 1, 1) := by decide +kernel
theorem dX1_changeRoom_7 : decode cX1_changeRoom 7 = .ok (.putfield 22, 3) := by decide +kernel
theorem dX1_changeRoom_10 : decode cX1_changeRoom 10 = .ok (.iload_n 2, 1) := by decide +kernel
theorem dX1_changeRoom_11 : decode cX1_changeRoom 11 = .ok (.ireturn, 1) := by decide +kernel
theorem dX1_changeLeak_0 : decode cX1_changeLeak 0 = .ok (.aload_n 0, 1) := by decide +kernel
theorem dX1_changeLeak_1 : decode cX1_changeLeak 1 = .ok (.getfield 25, 3) := by decide +kernel
theorem dX1_changeLeak_4 : decode cX1_changeLeak 4 = .ok (.istore_n 2, 1) := by decide +kernel
theorem dX1_changeLeak_5 : decode cX1_changeLeak 5 = .ok (.aload_n 0, 1) := by decide +kernel
theorem dX1_changeLeak_6 : decode cX1_changeLeak 6 = .ok (.iload_n 1, 1) := by decide +kernel
theorem dX1_changeLeak_7 : decode cX1_changeLeak 7 = .ok (.putfield 25, 3) := by decide +kernel
theorem dX1_changeLeak_10 : decode cX1_changeLeak 10 = .ok (.iload_n 2, 1) := by decide +kernel
theorem dX1_changeLeak_11 : decode cX1_changeLeak 11 = .ok (.ireturn, 1) := by decide +kernel
theorem dX1_changeBar_0 : decode cX1_changeBar 0 = .ok (.aload_n 0, 1) := by decide +kernel
theorem dX1_changeBar_1 : decode cX1_changeBar 1 = .ok (.getfield 28, 3) := by decide +kernel
theorem dX1_changeBar_4 : decode cX1_changeBar 4 = .ok (.istore_n 2, 1) := by decide +kernel
theorem dX1_changeBar_5 : decode cX1_changeBar 5 = .ok (.aload_n 0, 1) := by decide +kernel
theorem dX1_changeBar_6 : decode cX1_changeBar 6 = .ok (.iload_n 1, 1) := by decide +kernel
theorem dX1_changeBar_7 : decode cX1_changeBar 7 = .ok (.putfield 28, 3) := by decide +kernel
theorem dX1_changeBar_10 : decode cX1_changeBar 10 = .ok (.iload_n 2, 1) := by decide +kernel
theorem dX1_changeBar_11 : decode cX1_changeBar 11 = .ok (.ireturn, 1) := by decide +kernel
set_option maxRecDepth 20000 in
theorem ggX1_changeShares_X5_put : GoodIn wsX1_changeShares wsX5_put := goodIn_r _ [4] (by decide +kernel) (by decide +kernel)
set_option maxRecDepth 20000 in
theorem gX1_changeShares_X5_put_n31 : GoodIn wsX1_changeShares (wsX5_put) := ggX1_changeShares_X5_put
theorem dX1_changeShares_0 : decode cX1_changeShares 0 = .ok (.aload_n 0, 1) := by decide +kernel
theorem dX1_changeShares_1 : decode cX1_changeShares 1 = .ok (.getfield 9, 3) := by decide +kernel
theorem dX1_changeShares_4 : decode cX1_changeShares 4 = .ok (.iconst 0, 1) := by decide +kernel
theorem dX1_changeShares_5 : decode cX1_changeShares 5 = .ok (.iload_n 1, 1) := by decide +kernel
theorem dX1_changeShares_6 : decode cX1_changeShares 6 = .ok (.invokestatic 31, 3) := by decide +kernel
theorem dX1_changeShares_9 : decode cX1_changeShares 9 = .ok (.aload_n 0, 1) := by decide +kernel
theorem dX1_changeShares_10 : decode cX1_changeShares 10 = .ok (.getfield 9, 3) := by decide +kernel
theorem dX1_changeShares_13 : decode cX1_changeShares 13 = .ok (.iconst 1, 1) := by decide +kernel
theorem dX1_changeShares_14 : decode cX1_changeShares 14 = .ok (.iload_n 2, 1) := by decide +kernel
theorem dX1_changeShares_15 : decode cX1_changeShares 15 = .ok (.invokestatic 31, 3) := by decide +kernel
theorem dX1_changeShares_18 : decode cX1_changeShares 18 = .ok (.aload_n 0, 1) := by decide +kernel
theorem dX1_changeShares_19 : decode cX1_changeShares 19 = .ok (.getfield 9, 3) := by decide +kernel
theorem dX1_changeShares_22 : decode cX1_changeShares 22 = .ok (.iconst 2, 1) := by decide +kernel
theorem dX1_changeShares_23 : decode cX1_changeShares 23 = .ok (.iload_n 3, 1) := by decide +kernel
theorem dX1_changeShares_24 : decode cX1_changeShares 24 = .ok (.invokestatic 31, 3) := by decide +kernel
theorem dX1_changeShares_27 : decode cX1_changeShares 27 = .ok (.return_, 1) := by decide +kernel
set_option maxRecDepth 20000 in
theorem ggX1_changeSeason_X5_put : GoodIn wsX1_changeSeason wsX5_put := goodIn_r _ [5] (by decide +kernel) (by decide +kernel)
set_option maxRecDepth 20000 in
theorem gX1_changeSeason_X5_put_n31 : GoodIn wsX1_changeSeason (wsX5_put) := ggX1_changeSeason_X5_put
theorem dX1_changeSeason_0 : decode cX1_changeSeason 0 = .ok (.iload_n 2, 1) := by decide +kernel
theorem dX1_changeSeason_1 : decode cX1_changeSeason 1 = .ok (.istore_n 3, 1) := by decide +kernel
theorem dX1_changeSeason_2 : decode cX1_changeSeason 2 = .ok (.iconst 0, 1) := by decide +kernel
theorem dX1_changeSeason_3 : decode cX1_changeSeason 3 = .ok (.istore 4, 2) := by decide +kernel
theorem dX1_changeSeason_5 : decode cX1_changeSeason 5 = .ok (.iload 4, 2) := by decide +kernel
theorem dX1_changeSeason_7 : decode cX1_changeSeason 7 = .ok (.iload_n 1, 1) := by decide +kernel
theorem dX1_changeSeason_8 : decode cX1_changeSeason 8 = .ok (.if_icmp .ge 32, 3) := by decide +kernel
theorem dX1_changeSeason_11 : decode cX1_changeSeason 11 = .ok (.iload 4, 2) := by decide +kernel
theorem dX1_changeSeason_13 : decode cX1_changeSeason 13 = .ok (.bipush 12, 2) := by decide +kernel
theorem dX1_changeSeason_15 : decode cX1_changeSeason 15 = .ok (.if_icmp .ge 25, 3) := by decide +kernel
theorem dX1_changeSeason_18 : decode cX1_changeSeason 18 = .ok (.aload_n 0, 1) := by decide +kernel
theorem dX1_changeSeason_19 : decode cX1_changeSeason 19 = .ok (.getfield 15, 3) := by decide +kernel
theorem dX1_changeSeason_22 : decode cX1_changeSeason 22 = .ok (.iload 4, 2) := by decide +kernel
theorem dX1_changeSeason_24 : decode cX1_changeSeason 24 = .ok (.iload_n 3, 1) := by decide +kernel
theorem dX1_changeSeason_25 : decode cX1_changeSeason 25 = .ok (.iconst 3, 1) := by decide +kernel
theorem dX1_changeSeason_26 : decode cX1_changeSeason 26 = .ok (.irem, 1) := by decide +kernel
theorem dX1_changeSeason_27 : decode cX1_changeSeason 27 = .ok (.invokestatic 31, 3) := by decide +kernel
theorem dX1_changeSeason_30 : decode cX1_changeSeason 30 = .ok (.iload_n 3, 1) := by decide +kernel
theorem dX1_changeSeason_31 : decode cX1_changeSeason 31 = .ok (.iconst 3, 1) := by decide +kernel
theorem dX1_changeSeason_32 : decode cX1_changeSeason 32 = .ok (.idiv, 1) := by decide +kernel
theorem dX1_changeSeason_33 : decode cX1_changeSeason 33 = .ok (.istore_n 3, 1) := by decide +kernel
theorem dX1_changeSeason_34 : decode cX1_changeSeason 34 = .ok (.iinc 4 1, 3) := by decide +kernel
theorem dX1_changeSeason_37 : decode cX1_changeSeason 37 = .ok (.goto (-32), 3) := by decide +kernel
theorem dX1_changeSeason_40 : decode cX1_changeSeason 40 = .ok (.aload_n 0, 1) := by decide +kernel
theorem dX1_changeSeason_41 : decode cX1_changeSeason 41 = .ok (.iload_n 1, 1) := by decide +kernel
theorem dX1_changeSeason_42 : decode cX1_changeSeason 42 = .ok (.putfield 18, 3) := by decide +kernel
theorem dX1_changeSeason_45 : decode cX1_changeSeason 45 = .ok (.return_, 1) := by decide +kernel
set_option maxRecDepth 20000 in
theorem ggX1_shareOn_X5_at : GoodIn wsX1_shareOn wsX5_at := goodIn_r _ [6] (by decide +kernel) (by decide +kernel)
set_option maxRecDepth 20000 in
theorem gX1_shareOn_X5_at_n35 : GoodIn wsX1_shareOn (wsX5_at) := ggX1_shareOn_X5_at
theorem dX1_shareOn_0 : decode cX1_shareOn 0 = .ok (.aload_n 0, 1) := by decide +kernel
theorem dX1_shareOn_1 : decode cX1_shareOn 1 = .ok (.getfield 18, 3) := by decide +kernel
theorem dX1_shareOn_4 : decode cX1_shareOn 4 = .ok (.ifCond .le 12, 3) := by decide +kernel
theorem dX1_shareOn_7 : decode cX1_shareOn 7 = .ok (.iload_n 1, 1) := by decide +kernel
theorem dX1_shareOn_8 : decode cX1_shareOn 8 = .ok (.aload_n 0, 1) := by decide +kernel
theorem dX1_shareOn_9 : decode cX1_shareOn 9 = .ok (.getfield 18, 3) := by decide +kernel
theorem dX1_shareOn_12 : decode cX1_shareOn 12 = .ok (.irem, 1) := by decide +kernel
theorem dX1_shareOn_13 : decode cX1_shareOn 13 = .ok (.goto 4, 3) := by decide +kernel
theorem dX1_shareOn_16 : decode cX1_shareOn 16 = .ok (.iconst 0, 1) := by decide +kernel
theorem dX1_shareOn_17 : decode cX1_shareOn 17 = .ok (.istore_n 2, 1) := by decide +kernel
theorem dX1_shareOn_18 : decode cX1_shareOn 18 = .ok (.aload_n 0, 1) := by decide +kernel
theorem dX1_shareOn_19 : decode cX1_shareOn 19 = .ok (.getfield 9, 3) := by decide +kernel
theorem dX1_shareOn_22 : decode cX1_shareOn 22 = .ok (.aload_n 0, 1) := by decide +kernel
theorem dX1_shareOn_23 : decode cX1_shareOn 23 = .ok (.getfield 15, 3) := by decide +kernel
theorem dX1_shareOn_26 : decode cX1_shareOn 26 = .ok (.iload_n 2, 1) := by decide +kernel
theorem dX1_shareOn_27 : decode cX1_shareOn 27 = .ok (.invokestatic 35, 3) := by decide +kernel
theorem dX1_shareOn_30 : decode cX1_shareOn 30 = .ok (.invokestatic 35, 3) := by decide +kernel
theorem dX1_shareOn_33 : decode cX1_shareOn 33 = .ok (.ireturn, 1) := by decide +kernel
theorem dX1_chargeAtFirst_0 : decode cX1_chargeAtFirst 0 = .ok (.aload_n 0, 1) := by decide +kernel
theorem dX1_chargeAtFirst_1 : decode cX1_chargeAtFirst 1 = .ok (.getfield 22, 3) := by decide +kernel
theorem dX1_chargeAtFirst_4 : decode cX1_chargeAtFirst 4 = .ok (.sipush 1000, 3) := by decide +kernel
theorem dX1_chargeAtFirst_7 : decode cX1_chargeAtFirst 7 = .ok (.imul, 1) := by decide +kernel
theorem dX1_chargeAtFirst_8 : decode cX1_chargeAtFirst 8 = .ok (.ireturn, 1) := by decide +kernel
theorem dX1_chargeBehind_0 : decode cX1_chargeBehind 0 = .ok (.iload_n 1, 1) := by decide +kernel
theorem dX1_chargeBehind_1 : decode cX1_chargeBehind 1 = .ok (.ifCond .lt 7, 3) := by decide +kernel
theorem dX1_chargeBehind_4 : decode cX1_chargeBehind 4 = .ok (.iload_n 2, 1) := by decide +kernel
theorem dX1_chargeBehind_5 : decode cX1_chargeBehind 5 = .ok (.ifCond .gt 5, 3) := by decide +kernel
theorem dX1_chargeBehind_8 : decode cX1_chargeBehind 8 = .ok (.iconst (-1), 1) := by decide +kernel
theorem dX1_chargeBehind_9 : decode cX1_chargeBehind 9 = .ok (.ireturn, 1) := by decide +kernel
theorem dX1_chargeBehind_10 : decode cX1_chargeBehind 10 = .ok (.iload_n 1, 1) := by decide +kernel
theorem dX1_chargeBehind_11 : decode cX1_chargeBehind 11 = .ok (.iload_n 3, 1) := by decide +kernel
theorem dX1_chargeBehind_12 : decode cX1_chargeBehind 12 = .ok (.imul, 1) := by decide +kernel
theorem dX1_chargeBehind_13 : decode cX1_chargeBehind 13 = .ok (.sipush 999, 3) := by decide +kernel
theorem dX1_chargeBehind_16 : decode cX1_chargeBehind 16 = .ok (.iadd, 1) := by decide +kernel
theorem dX1_chargeBehind_17 : decode cX1_chargeBehind 17 = .ok (.sipush 1000, 3) := by decide +kernel
theorem dX1_chargeBehind_20 : decode cX1_chargeBehind 20 = .ok (.idiv, 1) := by decide +kernel
theorem dX1_chargeBehind_21 : decode cX1_chargeBehind 21 = .ok (.istore 5, 2) := by decide +kernel
theorem dX1_chargeBehind_23 : decode cX1_chargeBehind 23 = .ok (.iload 4, 2) := by decide +kernel
theorem dX1_chargeBehind_25 : decode cX1_chargeBehind 25 = .ok (.bipush 100, 2) := by decide +kernel
theorem dX1_chargeBehind_27 : decode cX1_chargeBehind 27 = .ok (.imul, 1) := by decide +kernel
theorem dX1_chargeBehind_28 : decode cX1_chargeBehind 28 = .ok (.iload_n 2, 1) := by decide +kernel
theorem dX1_chargeBehind_29 : decode cX1_chargeBehind 29 = .ok (.iadd, 1) := by decide +kernel
theorem dX1_chargeBehind_30 : decode cX1_chargeBehind 30 = .ok (.iconst 1, 1) := by decide +kernel
theorem dX1_chargeBehind_31 : decode cX1_chargeBehind 31 = .ok (.isub, 1) := by decide +kernel
theorem dX1_chargeBehind_32 : decode cX1_chargeBehind 32 = .ok (.iload_n 2, 1) := by decide +kernel
theorem dX1_chargeBehind_33 : decode cX1_chargeBehind 33 = .ok (.idiv, 1) := by decide +kernel
theorem dX1_chargeBehind_34 : decode cX1_chargeBehind 34 = .ok (.istore 6, 2) := by decide +kernel
theorem dX1_chargeBehind_36 : decode cX1_chargeBehind 36 = .ok (.iload_n 1, 1) := by decide +kernel
theorem dX1_chargeBehind_37 : decode cX1_chargeBehind 37 = .ok (.iload 5, 2) := by decide +kernel
theorem dX1_chargeBehind_39 : decode cX1_chargeBehind 39 = .ok (.isub, 1) := by decide +kernel
theorem dX1_chargeBehind_40 : decode cX1_chargeBehind 40 = .ok (.iload 6, 2) := by decide +kernel
theorem dX1_chargeBehind_42 : decode cX1_chargeBehind 42 = .ok (.isub, 1) := by decide +kernel
theorem dX1_chargeBehind_43 : decode cX1_chargeBehind 43 = .ok (.ireturn, 1) := by decide +kernel
set_option maxRecDepth 20000 in
theorem ggX1_chargeFrom_X1_shareOn : GoodIn wsX1_chargeFrom wsX1_shareOn := goodIn_r _ [5, 6, 7, 8, 9, 10, 11, 16, 17, 18, 19, 20, 21] (by decide +kernel) (by decide +kernel)
set_option maxRecDepth 20000 in
theorem gX1_chargeFrom_X1_shareOn : GoodIn wsX1_chargeFrom (wsV RX1 39 RX1 yX1_shareOn wsX1_shareOn) := goodIn_app (goodIn_of _ (by decide +kernel)) ggX1_chargeFrom_X1_shareOn
set_option maxRecDepth 20000 in
theorem ggX1_chargeFrom_X1_chargeBehind : GoodIn wsX1_chargeFrom wsX1_chargeBehind := goodIn_r _ [15] (by decide +kernel) (by decide +kernel)
set_option maxRecDepth 20000 in
theorem gX1_chargeFrom_X1_chargeBehind : GoodIn wsX1_chargeFrom (wsV RX1 43 RX1 yX1_chargeBehind wsX1_chargeBehind) := goodIn_app (goodIn_of _ (by decide +kernel)) ggX1_chargeFrom_X1_chargeBehind
theorem dX1_chargeFrom_0 : decode cX1_chargeFrom 0 = .ok (.iload_n 1, 1) := by decide +kernel
theorem dX1_chargeFrom_1 : decode cX1_chargeFrom 1 = .ok (.istore 6, 2) := by decide +kernel
theorem dX1_chargeFrom_3 : decode cX1_chargeFrom 3 = .ok (.iload_n 2, 1) := by decide +kernel
theorem dX1_chargeFrom_4 : decode cX1_chargeFrom 4 = .ok (.istore 7, 2) := by decide +kernel
theorem dX1_chargeFrom_6 : decode cX1_chargeFrom 6 = .ok (.iload 7, 2) := by decide +kernel
theorem dX1_chargeFrom_8 : decode cX1_chargeFrom 8 = .ok (.iload_n 3, 1) := by decide +kernel
theorem dX1_chargeFrom_9 : decode cX1_chargeFrom 9 = .ok (.if_icmp .ge 32, 3) := by decide +kernel
theorem dX1_chargeFrom_12 : decode cX1_chargeFrom 12 = .ok (.iload 6, 2) := by decide +kernel
theorem dX1_chargeFrom_14 : decode cX1_chargeFrom 14 = .ok (.ifCond .lt 27, 3) := by decide +kernel
theorem dX1_chargeFrom_17 : decode cX1_chargeFrom 17 = .ok (.aload_n 0, 1) := by decide +kernel
theorem dX1_chargeFrom_18 : decode cX1_chargeFrom 18 = .ok (.iload 6, 2) := by decide +kernel
theorem dX1_chargeFrom_20 : decode cX1_chargeFrom 20 = .ok (.aload_n 0, 1) := by decide +kernel
theorem dX1_chargeFrom_21 : decode cX1_chargeFrom 21 = .ok (.iload 7, 2) := by decide +kernel
theorem dX1_chargeFrom_23 : decode cX1_chargeFrom 23 = .ok (.invokevirtual 39, 3) := by decide +kernel
theorem dX1_chargeFrom_26 : decode cX1_chargeFrom 26 = .ok (.iload 4, 2) := by decide +kernel
theorem dX1_chargeFrom_28 : decode cX1_chargeFrom 28 = .ok (.iload 5, 2) := by decide +kernel
theorem dX1_chargeFrom_30 : decode cX1_chargeFrom 30 = .ok (.invokevirtual 43, 3) := by decide +kernel
theorem dX1_chargeFrom_33 : decode cX1_chargeFrom 33 = .ok (.istore 6, 2) := by decide +kernel
theorem dX1_chargeFrom_35 : decode cX1_chargeFrom 35 = .ok (.iinc 7 1, 3) := by decide +kernel
theorem dX1_chargeFrom_38 : decode cX1_chargeFrom 38 = .ok (.goto (-32), 3) := by decide +kernel
theorem dX1_chargeFrom_41 : decode cX1_chargeFrom 41 = .ok (.iload 6, 2) := by decide +kernel
theorem dX1_chargeFrom_43 : decode cX1_chargeFrom 43 = .ok (.ireturn, 1) := by decide +kernel
set_option maxRecDepth 20000 in
theorem ggX1_chargeAhead_X1_chargeAtFirst : GoodIn wsX1_chargeAhead wsX1_chargeAtFirst := goodIn_r _ [5, 6, 25, 26, 27, 28, 29, 30] (by decide +kernel) (by decide +kernel)
set_option maxRecDepth 20000 in
theorem gX1_chargeAhead_X1_chargeAtFirst : GoodIn wsX1_chargeAhead (wsV RX1 47 RX1 yX1_chargeAtFirst wsX1_chargeAtFirst) := goodIn_app (goodIn_of _ (by decide +kernel)) ggX1_chargeAhead_X1_chargeAtFirst
set_option maxRecDepth 20000 in
theorem ggX1_chargeAhead_X1_chargeFrom : GoodIn wsX1_chargeAhead wsX1_chargeFrom := goodIn_r _ [10, 11, 12, 13, 4, 14, 15, 16, 17, 18, 19, 20, 21, 22, 23, 24, 25, 26, 27, 28, 29, 30] (by decide +kernel) (by decide +kernel)
set_option maxRecDepth 20000 in
theorem gX1_chargeAhead_X1_chargeFrom : GoodIn wsX1_chargeAhead (wsV RX1 51 RX1 yX1_chargeFrom wsX1_chargeFrom) := goodIn_app (goodIn_of _ (by decide +kernel)) ggX1_chargeAhead_X1_chargeFrom
theorem dX1_chargeAhead_0 : decode cX1_chargeAhead 0 = .ok (.aload_n 0, 1) := by decide +kernel
theorem dX1_chargeAhead_1 : decode cX1_chargeAhead 1 = .ok (.aload_n 0, 1) := by decide +kernel
theorem dX1_chargeAhead_2 : decode cX1_chargeAhead 2 = .ok (.invokevirtual 47, 3) := by decide +kernel
theorem dX1_chargeAhead_5 : decode cX1_chargeAhead 5 = .ok (.iconst 0, 1) := by decide +kernel
theorem dX1_chargeAhead_6 : decode cX1_chargeAhead 6 = .ok (.iload_n 1, 1) := by decide +kernel
theorem dX1_chargeAhead_7 : decode cX1_chargeAhead 7 = .ok (.iload_n 2, 1) := by decide +kernel
theorem dX1_chargeAhead_8 : decode cX1_chargeAhead 8 = .ok (.iload_n 3, 1) := by decide +kernel
theorem dX1_chargeAhead_9 : decode cX1_chargeAhead 9 = .ok (.invokevirtual 51, 3) := by decide +kernel
theorem dX1_chargeAhead_12 : decode cX1_chargeAhead 12 = .ok (.ireturn, 1) := by decide +kernel
set_option maxRecDepth 20000 in
theorem ggX1_daysLasted_X1_chargeAtFirst : GoodIn wsX1_daysLasted wsX1_chargeAtFirst := goodIn_r _ [6, 7, 22, 23, 24, 25, 26, 27] (by decide +kernel) (by decide +kernel)
set_option maxRecDepth 20000 in
theorem gX1_daysLasted_X1_chargeAtFirst : GoodIn wsX1_daysLasted (wsV RX1 47 RX1 yX1_chargeAtFirst wsX1_chargeAtFirst) := goodIn_app (goodIn_of _ (by decide +kernel)) ggX1_daysLasted_X1_chargeAtFirst
set_option maxRecDepth 20000 in
theorem ggX1_daysLasted_X1_shareOn : GoodIn wsX1_daysLasted wsX1_shareOn := goodIn_r _ [11, 12, 13, 14, 15, 16, 17, 22, 23, 24, 25, 26, 27] (by decide +kernel) (by decide +kernel)
set_option maxRecDepth 20000 in
theorem gX1_daysLasted_X1_shareOn : GoodIn wsX1_daysLasted (wsV RX1 39 RX1 yX1_shareOn wsX1_shareOn) := goodIn_app (goodIn_of _ (by decide +kernel)) ggX1_daysLasted_X1_shareOn
set_option maxRecDepth 20000 in
theorem ggX1_daysLasted_X1_chargeBehind : GoodIn wsX1_daysLasted wsX1_chargeBehind := goodIn_r _ [21] (by decide +kernel) (by decide +kernel)
set_option maxRecDepth 20000 in
theorem gX1_daysLasted_X1_chargeBehind : GoodIn wsX1_daysLasted (wsV RX1 43 RX1 yX1_chargeBehind wsX1_chargeBehind) := goodIn_app (goodIn_of _ (by decide +kernel)) ggX1_daysLasted_X1_chargeBehind
theorem dX1_daysLasted_0 : decode cX1_daysLasted 0 = .ok (.aload_n 0, 1) := by decide +kernel
theorem dX1_daysLasted_1 : decode cX1_daysLasted 1 = .ok (.invokevirtual 47, 3) := by decide +kernel
theorem dX1_daysLasted_4 : decode cX1_daysLasted 4 = .ok (.istore_n 2, 1) := by decide +kernel
theorem dX1_daysLasted_5 : decode cX1_daysLasted 5 = .ok (.iconst 0, 1) := by decide +kernel
theorem dX1_daysLasted_6 : decode cX1_daysLasted 6 = .ok (.istore_n 3, 1) := by decide +kernel
theorem dX1_daysLasted_7 : decode cX1_daysLasted 7 = .ok (.iload_n 3, 1) := by decide +kernel
theorem dX1_daysLasted_8 : decode cX1_daysLasted 8 = .ok (.sipush 400, 3) := by decide +kernel
theorem dX1_daysLasted_11 : decode cX1_daysLasted 11 = .ok (.if_icmp .ge 31, 3) := by decide +kernel
theorem dX1_daysLasted_14 : decode cX1_daysLasted 14 = .ok (.aload_n 0, 1) := by decide +kernel
theorem dX1_daysLasted_15 : decode cX1_daysLasted 15 = .ok (.iload_n 2, 1) := by decide +kernel
theorem dX1_daysLasted_16 : decode cX1_daysLasted 16 = .ok (.aload_n 0, 1) := by decide +kernel
theorem dX1_daysLasted_17 : decode cX1_daysLasted 17 = .ok (.iload_n 3, 1) := by decide +kernel
theorem dX1_daysLasted_18 : decode cX1_daysLasted 18 = .ok (.invokevirtual 39, 3) := by decide +kernel
theorem dX1_daysLasted_21 : decode cX1_daysLasted 21 = .ok (.aload_n 0, 1) := by decide +kernel
theorem dX1_daysLasted_22 : decode cX1_daysLasted 22 = .ok (.getfield 25, 3) := by decide +kernel
theorem dX1_daysLasted_25 : decode cX1_daysLasted 25 = .ok (.iload_n 1, 1) := by decide +kernel
theorem dX1_daysLasted_26 : decode cX1_daysLasted 26 = .ok (.invokevirtual 43, 3) := by decide +kernel
theorem dX1_daysLasted_29 : decode cX1_daysLasted 29 = .ok (.istore_n 2, 1) := by decide +kernel
theorem dX1_daysLasted_30 : decode cX1_daysLasted 30 = .ok (.iload_n 2, 1) := by decide +kernel
theorem dX1_daysLasted_31 : decode cX1_daysLasted 31 = .ok (.ifCond .ge 5, 3) := by decide +kernel
theorem dX1_daysLasted_34 : decode cX1_daysLasted 34 = .ok (.iload_n 3, 1) := by decide +kernel
theorem dX1_daysLasted_35 : decode cX1_daysLasted 35 = .ok (.ireturn, 1) := by decide +kernel
theorem dX1_daysLasted_36 : decode cX1_daysLasted 36 = .ok (.iinc 3 1, 3) := by decide +kernel
theorem dX1_daysLasted_39 : decode cX1_daysLasted 39 = .ok (.goto (-32), 3) := by decide +kernel
theorem dX1_daysLasted_42 : decode cX1_daysLasted 42 = .ok (.sipush 400, 3) := by decide +kernel
theorem dX1_daysLasted_45 : decode cX1_daysLasted 45 = .ok (.ireturn, 1) := by decide +kernel
set_option maxRecDepth 20000 in
theorem ggX1_levelOf_X1_chargeAtFirst : GoodIn wsX1_levelOf wsX1_chargeAtFirst := goodIn_r _ [9, 10, 11, 12, 13, 14, 15, 16] (by decide +kernel) (by decide +kernel)
set_option maxRecDepth 20000 in
theorem gX1_levelOf_X1_chargeAtFirst : GoodIn wsX1_levelOf (wsV RX1 47 RX1 yX1_chargeAtFirst wsX1_chargeAtFirst) := goodIn_app (goodIn_of _ (by decide +kernel)) ggX1_levelOf_X1_chargeAtFirst
theorem dX1_levelOf_0 : decode cX1_levelOf 0 = .ok (.aload_n 0, 1) := by decide +kernel
theorem dX1_levelOf_1 : decode cX1_levelOf 1 = .ok (.invokevirtual 47, 3) := by decide +kernel
theorem dX1_levelOf_4 : decode cX1_levelOf 4 = .ok (.istore_n 2, 1) := by decide +kernel
theorem dX1_levelOf_5 : decode cX1_levelOf 5 = .ok (.iload_n 1, 1) := by decide +kernel
theorem dX1_levelOf_6 : decode cX1_levelOf 6 = .ok (.ifCond .lt 7, 3) := by decide +kernel
theorem dX1_levelOf_9 : decode cX1_levelOf 9 = .ok (.iload_n 2, 1) := by decide +kernel
theorem dX1_levelOf_10 : decode cX1_levelOf 10 = .ok (.ifCond .gt 7, 3) := by decide +kernel
theorem dX1_levelOf_13 : decode cX1_levelOf 13 = .ok (.iconst 0, 1) := by decide +kernel
theorem dX1_levelOf_14 : decode cX1_levelOf 14 = .ok (.goto 14, 3) := by decide +kernel
theorem dX1_levelOf_17 : decode cX1_levelOf 17 = .ok (.bipush 9, 2) := by decide +kernel
theorem dX1_levelOf_19 : decode cX1_levelOf 19 = .ok (.bipush 10, 2) := by decide +kernel
theorem dX1_levelOf_21 : decode cX1_levelOf 21 = .ok (.iload_n 1, 1) := by decide +kernel
theorem dX1_levelOf_22 : decode cX1_levelOf 22 = .ok (.imul, 1) := by decide +kernel
theorem dX1_levelOf_23 : decode cX1_levelOf 23 = .ok (.iload_n 2, 1) := by decide +kernel
theorem dX1_levelOf_24 : decode cX1_levelOf 24 = .ok (.idiv, 1) := by decide +kernel
theorem dX1_levelOf_25 : decode cX1_levelOf 25 = .ok (.invokestatic 55, 3) := by decide +kernel
theorem dX1_levelOf_28 : decode cX1_levelOf 28 = .ok (.ireturn, 1) := by decide +kernel
theorem dX2_init_0 : decode cX2_init 0 = .ok (.aload_n 0, 1) := by decide +kernel
theorem dX2_init_1 : decode cX2_init 1 = .ok (.invokespecial 1, 3) := by decide +kernel
theorem dX2_init_4 : decode cX2_init 4 = .ok (.aload_n 0, 1) := by decide +kernel
theorem dX2_init_5 : decode cX2_init 5 = .ok (.bipush 8, 2) := by decide +kernel
theorem dX2_init_7 : decode cX2_init 7 = .ok (.anewarray 7, 3) := by decide +kernel
theorem dX2_init_10 : decode cX2_init 10 = .ok (.putfield 9, 3) := by decide +kernel
theorem dX2_init_13 : decode cX2_init 13 = .ok (.aload_n 0, 1) := by decide +kernel
theorem dX2_init_14 : decode cX2_init 14 = .ok (.iconst 0, 1) := by decide +kernel
theorem dX2_init_15 : decode cX2_init 15 = .ok (.putfield 15, 3) := by decide +kernel
theorem dX2_init_18 : decode cX2_init 18 = .ok (.return_, 1) := by decide +kernel
theorem dX2_isFull_0 : decode cX2_isFull 0 = .ok (.aload_n 0, 1) := by decide +kernel
theorem dX2_isFull_1 : decode cX2_isFull 1 = .ok (.getfield 15, 3) := by decide +kernel
theorem dX2_isFull_4 : decode cX2_isFull 4 = .ok (.aload_n 0, 1) := by decide +kernel
theorem dX2_isFull_5 : decode cX2_isFull 5 = .ok (.getfield 9, 3) := by decide +kernel
theorem dX2_isFull_8 : decode cX2_isFull 8 = .ok (.arraylength, 1) := by decide +kernel
theorem dX2_isFull_9 : decode cX2_isFull 9 = .ok (.if_icmp .lt 7, 3) := by decide +kernel
theorem dX2_isFull_12 : decode cX2_isFull 12 = .ok (.iconst 1, 1) := by decide +kernel
theorem dX2_isFull_13 : decode cX2_isFull 13 = .ok (.goto 4, 3) := by decide +kernel
theorem dX2_isFull_16 : decode cX2_isFull 16 = .ok (.iconst 0, 1) := by decide +kernel
theorem dX2_isFull_17 : decode cX2_isFull 17 = .ok (.ireturn, 1) := by decide +kernel
theorem dX2_numbered_0 : decode cX2_numbered 0 = .ok (.iload_n 1, 1) := by decide +kernel
theorem dX2_numbered_1 : decode cX2_numbered 1 = .ok (.ifCond .lt 29, 3) := by decide +kernel
theorem dX2_numbered_4 : decode cX2_numbered 4 = .ok (.iload_n 1, 1) := by decide +kernel
theorem dX2_numbered_5 : decode cX2_numbered 5 = .ok (.aload_n 0, 1) := by decide +kernel
theorem dX2_numbered_6 : decode cX2_numbered 6 = .ok (.getfield 15, 3) := by decide +kernel
theorem dX2_numbered_9 : decode cX2_numbered 9 = .ok (.if_icmp .ge 21, 3) := by decide +kernel
theorem dX2_numbered_12 : decode cX2_numbered 12 = .ok (.iload_n 1, 1) := by decide +kernel
theorem dX2_numbered_13 : decode cX2_numbered 13 = .ok (.aload_n 0, 1) := by decide +kernel
theorem dX2_numbered_14 : decode cX2_numbered 14 = .ok (.getfield 9, 3) := by decide +kernel
theorem dX2_numbered_17 : decode cX2_numbered 17 = .ok (.arraylength, 1) := by decide +kernel
theorem dX2_numbered_18 : decode cX2_numbered 18 = .ok (.if_icmp .ge 12, 3) := by decide +kernel
theorem dX2_numbered_21 : decode cX2_numbered 21 = .ok (.aload_n 0, 1) := by decide +kernel
theorem dX2_numbered_22 : decode cX2_numbered 22 = .ok (.getfield 9, 3) := by decide +kernel
theorem dX2_numbered_25 : decode cX2_numbered 25 = .ok (.iload_n 1, 1) := by decide +kernel
theorem dX2_numbered_26 : decode cX2_numbered 26 = .ok (.aaload, 1) := by decide +kernel
theorem dX2_numbered_27 : decode cX2_numbered 27 = .ok (.goto 4, 3) := by decide +kernel
theorem dX2_numbered_30 : decode cX2_numbered 30 = .ok (.aconst_null, 1) := by decide +kernel
theorem dX2_numbered_31 : decode cX2_numbered 31 = .ok (.areturn, 1) := by decide +kernel
set_option maxRecDepth 20000 in
theorem ggX2_numberedIn_X2_numbered : GoodIn wsX2_numberedIn wsX2_numbered := goodIn_r _ [5, 6, 7, 8, 9] (by decide +kernel) (by decide +kernel)
set_option maxRecDepth 20000 in
theorem gX2_numberedIn_X2_numbered : GoodIn wsX2_numberedIn (wsV RX2 19 RX2 yX2_numbered wsX2_numbered) := goodIn_app (goodIn_of _ (by decide +kernel)) ggX2_numberedIn_X2_numbered
theorem dX2_numberedIn_0 : decode cX2_numberedIn 0 = .ok (.iload_n 1, 1) := by decide +kernel
theorem dX2_numberedIn_1 : decode cX2_numberedIn 1 = .ok (.iload_n 2, 1) := by decide +kernel
theorem dX2_numberedIn_2 : decode cX2_numberedIn 2 = .ok (.ishr, 1) := by decide +kernel
theorem dX2_numberedIn_3 : decode cX2_numberedIn 3 = .ok (.iconst 1, 1) := by decide +kernel
theorem dX2_numberedIn_4 : decode cX2_numberedIn 4 = .ok (.iand, 1) := by decide +kernel
theorem dX2_numberedIn_5 : decode cX2_numberedIn 5 = .ok (.iconst 1, 1) := by decide +kernel
theorem dX2_numberedIn_6 : decode cX2_numberedIn 6 = .ok (.if_icmp .ne 11, 3) := by decide +kernel
theorem dX2_numberedIn_9 : decode cX2_numberedIn 9 = .ok (.aload_n 0, 1) := by decide +kernel
theorem dX2_numberedIn_10 : decode cX2_numberedIn 10 = .ok (.iload_n 2, 1) := by decide +kernel
theorem dX2_numberedIn_11 : decode cX2_numberedIn 11 = .ok (.invokevirtual 19, 3) := by decide +kernel
theorem dX2_numberedIn_14 : decode cX2_numberedIn 14 = .ok (.goto 4, 3) := by decide +kernel
theorem dX2_numberedIn_17 : decode cX2_numberedIn 17 = .ok (.aconst_null, 1) := by decide +kernel
theorem dX2_numberedIn_18 : decode cX2_numberedIn 18 = .ok (.areturn, 1) := by decide +kernel
theorem dX2_add_0 : decode cX2_add 0 = .ok (.aload_n 0, 1) := by decide +kernel
theorem dX2_add_1 : decode cX2_add 1 = .ok (.getfield 15, 3) := by decide +kernel
theorem dX2_add_4 : decode cX2_add 4 = .ok (.istore_n 2, 1) := by decide +kernel
theorem dX2_add_5 : decode cX2_add 5 = .ok (.iload_n 2, 1) := by decide +kernel
theorem dX2_add_6 : decode cX2_add 6 = .ok (.ifCond .lt 26, 3) := by decide +kernel
theorem dX2_add_9 : decode cX2_add 9 = .ok (.iload_n 2, 1) := by decide +kernel
theorem dX2_add_10 : decode cX2_add 10 = .ok (.aload_n 0, 1) := by decide +kernel
theorem dX2_add_11 : decode cX2_add 11 = .ok (.getfield 9, 3) := by decide +kernel
theorem dX2_add_14 : decode cX2_add 14 = .ok (.arraylength, 1) := by decide +kernel
theorem dX2_add_15 : decode cX2_add 15 = .ok (.if_icmp .ge 17, 3) := by decide +kernel
theorem dX2_add_18 : decode cX2_add 18 = .ok (.aload_n 0, 1) := by decide +kernel
theorem dX2_add_19 : decode cX2_add 19 = .ok (.getfield 9, 3) := by decide +kernel
theorem dX2_add_22 : decode cX2_add 22 = .ok (.iload_n 2, 1) := by decide +kernel
theorem dX2_add_23 : decode cX2_add 23 = .ok (.aload_n 1, 1) := by decide +kernel
theorem dX2_add_24 : decode cX2_add 24 = .ok (.aastore, 1) := by decide +kernel
theorem dX2_add_25 : decode cX2_add 25 = .ok (.aload_n 0, 1) := by decide +kernel
theorem dX2_add_26 : decode cX2_add 26 = .ok (.iload_n 2, 1) := by decide +kernel
theorem dX2_add_27 : decode cX2_add 27 = .ok (.iconst 1, 1) := by decide +kernel
theorem dX2_add_28 : decode cX2_add 28 = .ok (.iadd, 1) := by decide +kernel
theorem dX2_add_29 : decode cX2_add 29 = .ok (.putfield 15, 3) := by decide +kernel
theorem dX2_add_32 : decode cX2_add 32 = .ok (.iload_n 2, 1) := by decide +kernel
theorem dX2_add_33 : decode cX2_add 33 = .ok (.ireturn, 1) := by decide +kernel
theorem dX2_removeLatest_0 : decode cX2_removeLatest 0 = .ok (.aload_n 0, 1) := by decide +kernel
theorem dX2_removeLatest_1 : decode cX2_removeLatest 1 = .ok (.getfield 15, 3) := by decide +kernel
theorem dX2_removeLatest_4 : decode cX2_removeLatest 4 = .ok (.iconst 1, 1) := by decide +kernel
theorem dX2_removeLatest_5 : decode cX2_removeLatest 5 = .ok (.isub, 1) := by decide +kernel
theorem dX2_removeLatest_6 : decode cX2_removeLatest 6 = .ok (.istore_n 1, 1) := by decide +kernel
theorem dX2_removeLatest_7 : decode cX2_removeLatest 7 = .ok (.iload_n 1, 1) := by decide +kernel
theorem dX2_removeLatest_8 : decode cX2_removeLatest 8 = .ok (.ifCond .lt 24, 3) := by decide +kernel
theorem dX2_removeLatest_11 : decode cX2_removeLatest 11 = .ok (.iload_n 1, 1) := by decide +kernel
theorem dX2_removeLatest_12 : decode cX2_removeLatest 12 = .ok (.aload_n 0, 1) := by decide +kernel
theorem dX2_removeLatest_13 : decode cX2_removeLatest 13 = .ok (.getfield 9, 3) := by decide +kernel
theorem dX2_removeLatest_16 : decode cX2_removeLatest 16 = .ok (.arraylength, 1) := by decide +kernel
theorem dX2_removeLatest_17 : decode cX2_removeLatest 17 = .ok (.if_icmp .ge 15, 3) := by decide +kernel
theorem dX2_removeLatest_20 : decode cX2_removeLatest 20 = .ok (.aload_n 0, 1) := by decide +kernel
theorem dX2_removeLatest_21 : decode cX2_removeLatest 21 = .ok (.getfield 9, 3) := by decide +kernel
theorem dX2_removeLatest_24 : decode cX2_removeLatest 24 = .ok (.iload_n 1, 1) := by decide +kernel
theorem dX2_removeLatest_25 : decode cX2_removeLatest 25 = .ok (.aconst_null, 1) := by decide +kernel
theorem dX2_removeLatest_26 : decode cX2_removeLatest 26 = .ok (.aastore, 1) := by decide +kernel
theorem dX2_removeLatest_27 : decode cX2_removeLatest 27 = .ok (.aload_n 0, 1) := by decide +kernel
theorem dX2_removeLatest_28 : decode cX2_removeLatest 28 = .ok (.iload_n 1, 1) := by decide +kernel
theorem dX2_removeLatest_29 : decode cX2_removeLatest 29 = .ok (.putfield 15, 3) := by decide +kernel
theorem dX2_removeLatest_32 : decode cX2_removeLatest 32 = .ok (.aload_n 0, 1) := by decide +kernel
theorem dX2_removeLatest_33 : decode cX2_removeLatest 33 = .ok (.getfield 15, 3) := by decide +kernel
theorem dX2_removeLatest_36 : decode cX2_removeLatest 36 = .ok (.ireturn, 1) := by decide +kernel
set_option maxRecDepth 20000 in
theorem ggX2_setOfOn_X2_numbered : GoodIn wsX2_setOfOn wsX2_numbered := goodIn_r _ [6, 1, 7, 8, 9] (by decide +kernel) (by decide +kernel)
set_option maxRecDepth 20000 in
theorem gX2_setOfOn_X2_numbered : GoodIn wsX2_setOfOn (wsV RX2 19 RX2 yX2_numbered wsX2_numbered) := goodIn_app (goodIn_of _ (by decide +kernel)) ggX2_setOfOn_X2_numbered
theorem dX2_setOfOn_0 : decode cX2_setOfOn 0 = .ok (.iconst 0, 1) := by decide +kernel
theorem dX2_setOfOn_1 : decode cX2_setOfOn 1 = .ok (.istore_n 1, 1) := by decide +kernel
theorem dX2_setOfOn_2 : decode cX2_setOfOn 2 = .ok (.iconst 0, 1) := by decide +kernel
theorem dX2_setOfOn_3 : decode cX2_setOfOn 3 = .ok (.istore_n 2, 1) := by decide +kernel
theorem dX2_setOfOn_4 : decode cX2_setOfOn 4 = .ok (.iload_n 2, 1) := by decide +kernel
theorem dX2_setOfOn_5 : decode cX2_setOfOn 5 = .ok (.aload_n 0, 1) := by decide +kernel
theorem dX2_setOfOn_6 : decode cX2_setOfOn 6 = .ok (.getfield 15, 3) := by decide +kernel
theorem dX2_setOfOn_9 : decode cX2_setOfOn 9 = .ok (.if_icmp .ge 32, 3) := by decide +kernel
theorem dX2_setOfOn_12 : decode cX2_setOfOn 12 = .ok (.aload_n 0, 1) := by decide +kernel
theorem dX2_setOfOn_13 : decode cX2_setOfOn 13 = .ok (.iload_n 2, 1) := by decide +kernel
theorem dX2_setOfOn_14 : decode cX2_setOfOn 14 = .ok (.invokevirtual 19, 3) := by decide +kernel
theorem dX2_setOfOn_17 : decode cX2_setOfOn 17 = .ok (.astore_n 3, 1) := by decide +kernel
theorem dX2_setOfOn_18 : decode cX2_setOfOn 18 = .ok (.aload_n 3, 1) := by decide +kernel
theorem dX2_setOfOn_19 : decode cX2_setOfOn 19 = .ok (.ifnull 16, 3) := by decide +kernel
theorem dX2_setOfOn_22 : decode cX2_setOfOn 22 = .ok (.aload_n 3, 1) := by decide +kernel
theorem dX2_setOfOn_23 : decode cX2_setOfOn 23 = .ok (.getfield 23, 3) := by decide +kernel
theorem dX2_setOfOn_26 : decode cX2_setOfOn 26 = .ok (.ifCond .eq 9, 3) := by decide +kernel
theorem dX2_setOfOn_29 : decode cX2_setOfOn 29 = .ok (.iload_n 1, 1) := by decide +kernel
theorem dX2_setOfOn_30 : decode cX2_setOfOn 30 = .ok (.iconst 1, 1) := by decide +kernel
theorem dX2_setOfOn_31 : decode cX2_setOfOn 31 = .ok (.iload_n 2, 1) := by decide +kernel
theorem dX2_setOfOn_32 : decode cX2_setOfOn 32 = .ok (.ishl, 1) := by decide +kernel
theorem dX2_setOfOn_33 : decode cX2_setOfOn 33 = .ok (.ior, 1) := by decide +kernel
theorem dX2_setOfOn_34 : decode cX2_setOfOn 34 = .ok (.istore_n 1, 1) := by decide +kernel
theorem dX2_setOfOn_35 : decode cX2_setOfOn 35 = .ok (.iinc 2 1, 3) := by decide +kernel
theorem dX2_setOfOn_38 : decode cX2_setOfOn 38 = .ok (.goto (-34), 3) := by decide +kernel
theorem dX2_setOfOn_41 : decode cX2_setOfOn 41 = .ok (.iload_n 1, 1) := by decide +kernel
theorem dX2_setOfOn_42 : decode cX2_setOfOn 42 = .ok (.ireturn, 1) := by decide +kernel
set_option maxRecDepth 20000 in
theorem ggX2_loadOf_X2_numberedIn : GoodIn wsX2_loadOf wsX2_numberedIn := goodIn_r _ [6, 7, 8, 9, 5, 10, 1, 11, 29, 30] (by decide +kernel) (by decide +kernel)
set_option maxRecDepth 20000 in
theorem gX2_loadOf_X2_numberedIn : GoodIn wsX2_loadOf (wsV RX2 27 RX2 yX2_numberedIn wsX2_numberedIn) := goodIn_app (goodIn_of _ (by decide +kernel)) ggX2_loadOf_X2_numberedIn
set_option maxRecDepth 20000 in
theorem ggX2_loadOf_X3_drainBy : GoodIn wsX2_loadOf wsX3_drainBy := goodIn_r _ [16, 17, 18, 19, 20, 21, 22, 23, 24, 25, 26, 27, 28, 31, 32, 33, 34, 35, 36, 37] (by decide +kernel) (by decide +kernel)
set_option maxRecDepth 20000 in
theorem gX2_loadOf_X3_drainBy : GoodIn wsX2_loadOf (wsV RX2 31 RX3 yX3_drainBy wsX3_drainBy) := goodIn_app (goodIn_of _ (by decide +kernel)) ggX2_loadOf_X3_drainBy
theorem dX2_loadOf_0 : decode cX2_loadOf 0 = .ok (.iconst 0, 1) := by decide +kernel
theorem dX2_loadOf_1 : decode cX2_loadOf 1 = .ok (.istore 4, 2) := by decide +kernel
theorem dX2_loadOf_3 : decode cX2_loadOf 3 = .ok (.iconst 0, 1) := by decide +kernel
theorem dX2_loadOf_4 : decode cX2_loadOf 4 = .ok (.istore 5, 2) := by decide +kernel
theorem dX2_loadOf_6 : decode cX2_loadOf 6 = .ok (.iload 5, 2) := by decide +kernel
theorem dX2_loadOf_8 : decode cX2_loadOf 8 = .ok (.aload_n 0, 1) := by decide +kernel
theorem dX2_loadOf_9 : decode cX2_loadOf 9 = .ok (.getfield 15, 3) := by decide +kernel
theorem dX2_loadOf_12 : decode cX2_loadOf 12 = .ok (.if_icmp .ge 35, 3) := by decide +kernel
theorem dX2_loadOf_15 : decode cX2_loadOf 15 = .ok (.aload_n 0, 1) := by decide +kernel
theorem dX2_loadOf_16 : decode cX2_loadOf 16 = .ok (.iload_n 1, 1) := by decide +kernel
theorem dX2_loadOf_17 : decode cX2_loadOf 17 = .ok (.iload 5, 2) := by decide +kernel
theorem dX2_loadOf_19 : decode cX2_loadOf 19 = .ok (.invokevirtual 27, 3) := by decide +kernel
theorem dX2_loadOf_22 : decode cX2_loadOf 22 = .ok (.astore 6, 2) := by decide +kernel
theorem dX2_loadOf_24 : decode cX2_loadOf 24 = .ok (.aload 6, 2) := by decide +kernel
theorem dX2_loadOf_26 : decode cX2_loadOf 26 = .ok (.ifnull 15, 3) := by decide +kernel
theorem dX2_loadOf_29 : decode cX2_loadOf 29 = .ok (.iload 4, 2) := by decide +kernel
theorem dX2_loadOf_31 : decode cX2_loadOf 31 = .ok (.aload 6, 2) := by decide +kernel
theorem dX2_loadOf_33 : decode cX2_loadOf 33 = .ok (.iload_n 2, 1) := by decide +kernel
theorem dX2_loadOf_34 : decode cX2_loadOf 34 = .ok (.iload_n 3, 1) := by decide +kernel
theorem dX2_loadOf_35 : decode cX2_loadOf 35 = .ok (.invokevirtual 31, 3) := by decide +kernel
theorem dX2_loadOf_38 : decode cX2_loadOf 38 = .ok (.iadd, 1) := by decide +kernel
theorem dX2_loadOf_39 : decode cX2_loadOf 39 = .ok (.istore 4, 2) := by decide +kernel
theorem dX2_loadOf_41 : decode cX2_loadOf 41 = .ok (.iinc 5 1, 3) := by decide +kernel
theorem dX2_loadOf_44 : decode cX2_loadOf 44 = .ok (.goto (-38), 3) := by decide +kernel
theorem dX2_loadOf_47 : decode cX2_loadOf 47 = .ok (.iload 4, 2) := by decide +kernel
theorem dX2_loadOf_49 : decode cX2_loadOf 49 = .ok (.ireturn, 1) := by decide +kernel
set_option maxRecDepth 20000 in
theorem ggX2_worthOf_X2_numberedIn : GoodIn wsX2_worthOf wsX2_numberedIn := goodIn_r _ [6, 7, 8, 9, 5, 10, 1, 11, 12, 13] (by decide +kernel) (by decide +kernel)
set_option maxRecDepth 20000 in
theorem gX2_worthOf_X2_numberedIn : GoodIn wsX2_worthOf (wsV RX2 27 RX2 yX2_numberedIn wsX2_numberedIn) := goodIn_app (goodIn_of _ (by decide +kernel)) ggX2_worthOf_X2_numberedIn
theorem dX2_worthOf_0 : decode cX2_worthOf 0 = .ok (.iconst 0, 1) := by decide +kernel
theorem dX2_worthOf_1 : decode cX2_worthOf 1 = .ok (.istore_n 2, 1) := by decide +kernel
theorem dX2_worthOf_2 : decode cX2_worthOf 2 = .ok (.iconst 0, 1) := by decide +kernel
theorem dX2_worthOf_3 : decode cX2_worthOf 3 = .ok (.istore_n 3, 1) := by decide +kernel
theorem dX2_worthOf_4 : decode cX2_worthOf 4 = .ok (.iload_n 3, 1) := by decide +kernel
theorem dX2_worthOf_5 : decode cX2_worthOf 5 = .ok (.aload_n 0, 1) := by decide +kernel
theorem dX2_worthOf_6 : decode cX2_worthOf 6 = .ok (.getfield 15, 3) := by decide +kernel
theorem dX2_worthOf_9 : decode cX2_worthOf 9 = .ok (.if_icmp .ge 30, 3) := by decide +kernel
theorem dX2_worthOf_12 : decode cX2_worthOf 12 = .ok (.aload_n 0, 1) := by decide +kernel
theorem dX2_worthOf_13 : decode cX2_worthOf 13 = .ok (.iload_n 1, 1) := by decide +kernel
theorem dX2_worthOf_14 : decode cX2_worthOf 14 = .ok (.iload_n 3, 1) := by decide +kernel
theorem dX2_worthOf_15 : decode cX2_worthOf 15 = .ok (.invokevirtual 27, 3) := by decide +kernel
theorem dX2_worthOf_18 : decode cX2_worthOf 18 = .ok (.astore 4, 2) := by decide +kernel
theorem dX2_worthOf_20 : decode cX2_worthOf 20 = .ok (.aload 4, 2) := by decide +kernel
theorem dX2_worthOf_22 : decode cX2_worthOf 22 = .ok (.ifnull 11, 3) := by decide +kernel
theorem dX2_worthOf_25 : decode cX2_worthOf 25 = .ok (.iload_n 2, 1) := by decide +kernel
theorem dX2_worthOf_26 : decode cX2_worthOf 26 = .ok (.aload 4, 2) := by decide +kernel
theorem dX2_worthOf_28 : decode cX2_worthOf 28 = .ok (.getfield 35, 3) := by decide +kernel
theorem dX2_worthOf_31 : decode cX2_worthOf 31 = .ok (.iadd, 1) := by decide +kernel
theorem dX2_worthOf_32 : decode cX2_worthOf 32 = .ok (.istore_n 2, 1) := by decide +kernel
theorem dX2_worthOf_33 : decode cX2_worthOf 33 = .ok (.iinc 3 1, 3) := by decide +kernel
theorem dX2_worthOf_36 : decode cX2_worthOf 36 = .ok (.goto (-32), 3) := by decide +kernel
theorem dX2_worthOf_39 : decode cX2_worthOf 39 = .ok (.iload_n 2, 1) := by decide +kernel
theorem dX2_worthOf_40 : decode cX2_worthOf 40 = .ok (.ireturn, 1) := by decide +kernel
theorem dX3_init_0 : decode cX3_init 0 = .ok (.aload_n 0, 1) := by decide +kernel
theorem dX3_init_1 : decode cX3_init 1 = .ok (.invokespecial 3, 3) := by decide +kernel
theorem dX3_init_4 : decode cX3_init 4 = .ok (.aload_n 0, 1) := by decide +kernel
theorem dX3_init_5 : decode cX3_init 5 = .ok (.iload_n 1, 1) := by decide +kernel
theorem dX3_init_6 : decode cX3_init 6 = .ok (.putfield 9, 3) := by decide +kernel
theorem dX3_init_9 : decode cX3_init 9 = .ok (.aload_n 0, 1) := by decide +kernel
theorem dX3_init_10 : decode cX3_init 10 = .ok (.iload_n 2, 1) := by decide +kernel
theorem dX3_init_11 : decode cX3_init 11 = .ok (.putfield 15, 3) := by decide +kernel
theorem dX3_init_14 : decode cX3_init 14 = .ok (.aload_n 0, 1) := by decide +kernel
theorem dX3_init_15 : decode cX3_init 15 = .ok (.iload_n 3, 1) := by decide +kernel
theorem dX3_init_16 : decode cX3_init 16 = .ok (.putfield 18, 3) := by decide +kernel
theorem dX3_init_19 : decode cX3_init 19 = .ok (.aload_n 0, 1) := by decide +kernel
theorem dX3_init_20 : decode cX3_init 20 = .ok (.iload_n 1, 1) := by decide +kernel
theorem dX3_init_21 : decode cX3_init 21 = .ok (.ifCond .ne 7, 3) := by decide +kernel
theorem dX3_init_24 : decode cX3_init 24 = .ok (.iconst 0, 1) := by decide +kernel
theorem dX3_init_25 : decode cX3_init 25 = .ok (.goto 5, 3) := by decide +kernel
theorem dX3_init_28 : decode cX3_init 28 = .ok (.iload 4, 2) := by decide +kernel
theorem dX3_init_30 : decode cX3_init 30 = .ok (.putfield 21, 3) := by decide +kernel
theorem dX3_init_33 : decode cX3_init 33 = .ok (.aload_n 0, 1) := by decide +kernel
theorem dX3_init_34 : decode cX3_init 34 = .ok (.iload_n 1, 1) := by decide +kernel
theorem dX3_init_35 : decode cX3_init 35 = .ok (.iconst 2, 1) := by decide +kernel
theorem dX3_init_36 : decode cX3_init 36 = .ok (.if_icmp .ne 8, 3) := by decide +kernel
theorem dX3_init_39 : decode cX3_init 39 = .ok (.iload 5, 2) := by decide +kernel
theorem dX3_init_41 : decode cX3_init 41 = .ok (.goto 4, 3) := by decide +kernel
theorem dX3_init_44 : decode cX3_init 44 = .ok (.iconst 5, 1) := by decide +kernel
theorem dX3_init_45 : decode cX3_init 45 = .ok (.putfield 24, 3) := by decide +kernel
theorem dX3_init_48 : decode cX3_init 48 = .ok (.aload_n 0, 1) := by decide +kernel
theorem dX3_init_49 : decode cX3_init 49 = .ok (.iload 6, 2) := by decide +kernel
theorem dX3_init_51 : decode cX3_init 51 = .ok (.putfield 27, 3) := by decide +kernel
theorem dX3_init_54 : decode cX3_init 54 = .ok (.aload_n 0, 1) := by decide +kernel
theorem dX3_init_55 : decode cX3_init 55 = .ok (.iconst 1, 1) := by decide +kernel
theorem dX3_init_56 : decode cX3_init 56 = .ok (.putfield 30, 3) := by decide +kernel
theorem dX3_init_59 : decode cX3_init 59 = .ok (.return_, 1) := by decide +kernel
theorem dX3_drainBy_0 : decode cX3_drainBy 0 = .ok (.aload_n 0, 1) := by decide +kernel
theorem dX3_drainBy_1 : decode cX3_drainBy 1 = .ok (.getfield 15, 3) := by decide +kernel
theorem dX3_drainBy_4 : decode cX3_drainBy 4 = .ok (.aload_n 0, 1) := by decide +kernel
theorem dX3_drainBy_5 : decode cX3_drainBy 5 = .ok (.getfield 18, 3) := by decide +kernel
theorem dX3_drainBy_8 : decode cX3_drainBy 8 = .ok (.imul, 1) := by decide +kernel
theorem dX3_drainBy_9 : decode cX3_drainBy 9 = .ok (.istore_n 3, 1) := by decide +kernel
theorem dX3_drainBy_10 : decode cX3_drainBy 10 = .ok (.aload_n 0, 1) := by decide +kernel
theorem dX3_drainBy_11 : decode cX3_drainBy 11 = .ok (.getfield 9, 3) := by decide +kernel
theorem dX3_drainBy_14 : decode cX3_drainBy 14 = .ok (.ifCond .eq 21, 3) := by decide +kernel
theorem dX3_drainBy_17 : decode cX3_drainBy 17 = .ok (.iload_n 3, 1) := by decide +kernel
theorem dX3_drainBy_18 : decode cX3_drainBy 18 = .ok (.aload_n 0, 1) := by decide +kernel
theorem dX3_drainBy_19 : decode cX3_drainBy 19 = .ok (.getfield 21, 3) := by decide +kernel
theorem dX3_drainBy_22 : decode cX3_drainBy 22 = .ok (.iconst 0, 1) := by decide +kernel
theorem dX3_drainBy_23 : decode cX3_drainBy 23 = .ok (.aload_n 0, 1) := by decide +kernel
theorem dX3_drainBy_24 : decode cX3_drainBy 24 = .ok (.getfield 21, 3) := by decide +kernel
theorem dX3_drainBy_27 : decode cX3_drainBy 27 = .ok (.iload_n 2, 1) := by decide +kernel
theorem dX3_drainBy_28 : decode cX3_drainBy 28 = .ok (.isub, 1) := by decide +kernel
theorem dX3_drainBy_29 : decode cX3_drainBy 29 = .ok (.invokestatic 34, 3) := by decide +kernel
theorem dX3_drainBy_32 : decode cX3_drainBy 32 = .ok (.iadd, 1) := by decide +kernel
theorem dX3_drainBy_33 : decode cX3_drainBy 33 = .ok (.iadd, 1) := by decide +kernel
theorem dX3_drainBy_34 : decode cX3_drainBy 34 = .ok (.istore_n 3, 1) := by decide +kernel
theorem dX3_drainBy_35 : decode cX3_drainBy 35 = .ok (.aload_n 0, 1) := by decide +kernel
theorem dX3_drainBy_36 : decode cX3_drainBy 36 = .ok (.getfield 9, 3) := by decide +kernel
theorem dX3_drainBy_39 : decode cX3_drainBy 39 = .ok (.iconst 2, 1) := by decide +kernel
theorem dX3_drainBy_40 : decode cX3_drainBy 40 = .ok (.if_icmp .ne 16, 3) := by decide +kernel
theorem dX3_drainBy_43 : decode cX3_drainBy 43 = .ok (.iload_n 3, 1) := by decide +kernel
theorem dX3_drainBy_44 : decode cX3_drainBy 44 = .ok (.iload_n 1, 1) := by decide +kernel
theorem dX3_drainBy_45 : decode cX3_drainBy 45 = .ok (.aload_n 0, 1) := by decide +kernel
theorem dX3_drainBy_46 : decode cX3_drainBy 46 = .ok (.getfield 24, 3) := by decide +kernel
theorem dX3_drainBy_49 : decode cX3_drainBy 49 = .ok (.invokestatic 40, 3) := by decide +kernel
theorem dX3_drainBy_52 : decode cX3_drainBy 52 = .ok (.imul, 1) := by decide +kernel
theorem dX3_drainBy_53 : decode cX3_drainBy 53 = .ok (.goto 4, 3) := by decide +kernel
theorem dX3_drainBy_56 : decode cX3_drainBy 56 = .ok (.iload_n 3, 1) := by decide +kernel
theorem dX3_drainBy_57 : decode cX3_drainBy 57 = .ok (.ireturn, 1) := by decide +kernel
theorem dX3_traceOfOneAsk_0 : decode cX3_traceOfOneAsk 0 = .ok (.aload_n 0, 1) := by decide +kernel
theorem dX3_traceOfOneAsk_1 : decode cX3_traceOfOneAsk 1 = .ok (.getfield 9, 3) := by decide +kernel
theorem dX3_traceOfOneAsk_4 : decode cX3_traceOfOneAsk 4 = .ok (.lookupswitch 33 #[(0, 28), (1, 30)], 28) := by decide +kernel
theorem dX3_traceOfOneAsk_32 : decode cX3_traceOfOneAsk 32 = .ok (.iconst 1, 1) := by decide +kernel
theorem dX3_traceOfOneAsk_33 : decode cX3_traceOfOneAsk 33 = .ok (.ireturn, 1) := by decide +kernel
theorem dX3_traceOfOneAsk_34 : decode cX3_traceOfOneAsk 34 = .ok (.bipush 11, 2) := by decide +kernel
theorem dX3_traceOfOneAsk_36 : decode cX3_traceOfOneAsk 36 = .ok (.ireturn, 1) := by decide +kernel
theorem dX3_traceOfOneAsk_37 : decode cX3_traceOfOneAsk 37 = .ok (.bipush 111, 2) := by decide +kernel
theorem dX3_traceOfOneAsk_39 : decode cX3_traceOfOneAsk 39 = .ok (.ireturn, 1) := by decide +kernel
theorem dX4_init_0 : decode cX4_init 0 = .ok (.aload_n 0, 1) := by decide +kernel
theorem dX4_init_1 : decode cX4_init 1 = .ok (.invokespecial 1, 3) := by decide +kernel
theorem dX4_init_4 : decode cX4_init 4 = .ok (.aload_n 0, 1) := by decide +kernel
theorem dX4_init_5 : decode cX4_init 5 = .ok (.bipush 12, 2) := by decide +kernel
theorem dX4_init_7 : decode cX4_init 7 = .ok (.newarray .int, 2) := by decide +kernel
theorem dX4_init_9 : decode cX4_init 9 = .ok (.putfield 9, 3) := by decide +kernel
theorem dX4_init_12 : decode cX4_init 12 = .ok (.aload_n 0, 1) := by decide +kernel
theorem dX4_init_13 : decode cX4_init 13 = .ok (.bipush 12, 2) := by decide +kernel
theorem dX4_init_15 : decode cX4_init 15 = .ok (.newarray .int, 2) := by decide +kernel
theorem dX4_init_17 : decode cX4_init 17 = .ok (.putfield 13, 3) := by decide +kernel
theorem dX4_init_20 : decode cX4_init 20 = .ok (.aload_n 0, 1) := by decide +kernel
theorem dX4_init_21 : decode cX4_init 21 = .ok (.bipush 12, 2) := by decide +kernel
theorem dX4_init_23 : decode cX4_init 23 = .ok (.newarray .int, 2) := by decide +kernel
theorem dX4_init_25 : decode cX4_init 25 = .ok (.putfield 16, 3) := by decide +kernel
theorem dX4_init_28 : decode cX4_init 28 = .ok (.aload_n 0, 1) := by decide +kernel
theorem dX4_init_29 : decode cX4_init 29 = .ok (.iconst 0, 1) := by decide +kernel
theorem dX4_init_30 : decode cX4_init 30 = .ok (.putfield 19, 3) := by decide +kernel
theorem dX4_init_33 : decode cX4_init 33 = .ok (.return_, 1) := by decide +kernel
theorem dX4_isFull_0 : decode cX4_isFull 0 = .ok (.aload_n 0, 1) := by decide +kernel
theorem dX4_isFull_1 : decode cX4_isFull 1 = .ok (.getfield 19, 3) := by decide +kernel
theorem dX4_isFull_4 : decode cX4_isFull 4 = .ok (.bipush 12, 2) := by decide +kernel
theorem dX4_isFull_6 : decode cX4_isFull 6 = .ok (.if_icmp .lt 7, 3) := by decide +kernel
theorem dX4_isFull_9 : decode cX4_isFull 9 = .ok (.iconst 1, 1) := by decide +kernel
theorem dX4_isFull_10 : decode cX4_isFull 10 = .ok (.goto 4, 3) := by decide +kernel
theorem dX4_isFull_13 : decode cX4_isFull 13 = .ok (.iconst 0, 1) := by decide +kernel
theorem dX4_isFull_14 : decode cX4_isFull 14 = .ok (.ireturn, 1) := by decide +kernel
set_option maxRecDepth 20000 in
theorem ggX4_add_X5_put : GoodIn wsX4_add wsX5_put := goodIn_r _ [6] (by decide +kernel) (by decide +kernel)
set_option maxRecDepth 20000 in
theorem gX4_add_X5_put_n23 : GoodIn wsX4_add (wsX5_put) := ggX4_add_X5_put
set_option maxRecDepth 20000 in
theorem ggX4_add_X4_arrange : GoodIn wsX4_add wsX4_arrange := goodIn_r _ [11, 2, 1, 12, 13, 14, 15, 10, 16, 17, 5, 18, 4, 6, 19, 20, 21, 22] (by decide +kernel) (by decide +kernel)
set_option maxRecDepth 20000 in
theorem gX4_add_X4_arrange : GoodIn wsX4_add (wsV RX4 29 RX4 yX4_arrange wsX4_arrange) := goodIn_app (goodIn_of _ (by decide +kernel)) ggX4_add_X4_arrange
theorem dX4_add_0 : decode cX4_add 0 = .ok (.aload_n 0, 1) := by decide +kernel
theorem dX4_add_1 : decode cX4_add 1 = .ok (.getfield 9, 3) := by decide +kernel
theorem dX4_add_4 : decode cX4_add 4 = .ok (.aload_n 0, 1) := by decide +kernel
theorem dX4_add_5 : decode cX4_add 5 = .ok (.getfield 19, 3) := by decide +kernel
theorem dX4_add_8 : decode cX4_add 8 = .ok (.iload_n 1, 1) := by decide +kernel
theorem dX4_add_9 : decode cX4_add 9 = .ok (.invokestatic 23, 3) := by decide +kernel
theorem dX4_add_12 : decode cX4_add 12 = .ok (.aload_n 0, 1) := by decide +kernel
theorem dX4_add_13 : decode cX4_add 13 = .ok (.getfield 13, 3) := by decide +kernel
theorem dX4_add_16 : decode cX4_add 16 = .ok (.aload_n 0, 1) := by decide +kernel
theorem dX4_add_17 : decode cX4_add 17 = .ok (.getfield 19, 3) := by decide +kernel
theorem dX4_add_20 : decode cX4_add 20 = .ok (.iload_n 2, 1) := by decide +kernel
theorem dX4_add_21 : decode cX4_add 21 = .ok (.invokestatic 23, 3) := by decide +kernel
theorem dX4_add_24 : decode cX4_add 24 = .ok (.aload_n 0, 1) := by decide +kernel
theorem dX4_add_25 : decode cX4_add 25 = .ok (.dup, 1) := by decide +kernel
theorem dX4_add_26 : decode cX4_add 26 = .ok (.getfield 19, 3) := by decide +kernel
theorem dX4_add_29 : decode cX4_add 29 = .ok (.iconst 1, 1) := by decide +kernel
theorem dX4_add_30 : decode cX4_add 30 = .ok (.iadd, 1) := by decide +kernel
theorem dX4_add_31 : decode cX4_add 31 = .ok (.putfield 19, 3) := by decide +kernel
theorem dX4_add_34 : decode cX4_add 34 = .ok (.aload_n 0, 1) := by decide +kernel
theorem dX4_add_35 : decode cX4_add 35 = .ok (.invokevirtual 29, 3) := by decide +kernel
theorem dX4_add_38 : decode cX4_add 38 = .ok (.aload_n 0, 1) := by decide +kernel
theorem dX4_add_39 : decode cX4_add 39 = .ok (.getfield 19, 3) := by decide +kernel
theorem dX4_add_42 : decode cX4_add 42 = .ok (.ireturn, 1) := by decide +kernel
set_option maxRecDepth 20000 in
theorem ggX4_removeLatest_X4_arrange : GoodIn wsX4_removeLatest wsX4_arrange := goodIn_r _ [6, 1, 7, 8, 9, 10, 11, 5, 12, 13, 14, 15, 16, 17, 18, 19, 20, 21] (by decide +kernel) (by decide +kernel)
set_option maxRecDepth 20000 in
theorem gX4_removeLatest_X4_arrange : GoodIn wsX4_removeLatest (wsV RX4 29 RX4 yX4_arrange wsX4_arrange) := goodIn_app (goodIn_of _ (by decide +kernel)) ggX4_removeLatest_X4_arrange
theorem dX4_removeLatest_0 : decode cX4_removeLatest 0 = .ok (.aload_n 0, 1) := by decide +kernel
theorem dX4_removeLatest_1 : decode cX4_removeLatest 1 = .ok (.dup, 1) := by decide +kernel
theorem dX4_removeLatest_2 : decode cX4_removeLatest 2 = .ok (.getfield 19, 3) := by decide +kernel
theorem dX4_removeLatest_5 : decode cX4_removeLatest 5 = .ok (.iconst 1, 1) := by decide +kernel
theorem dX4_removeLatest_6 : decode cX4_removeLatest 6 = .ok (.isub, 1) := by decide +kernel
theorem dX4_removeLatest_7 : decode cX4_removeLatest 7 = .ok (.putfield 19, 3) := by decide +kernel
theorem dX4_removeLatest_10 : decode cX4_removeLatest 10 = .ok (.aload_n 0, 1) := by decide +kernel
theorem dX4_removeLatest_11 : decode cX4_removeLatest 11 = .ok (.invokevirtual 29, 3) := by decide +kernel
theorem dX4_removeLatest_14 : decode cX4_removeLatest 14 = .ok (.aload_n 0, 1) := by decide +kernel
theorem dX4_removeLatest_15 : decode cX4_removeLatest 15 = .ok (.getfield 19, 3) := by decide +kernel
theorem dX4_removeLatest_18 : decode cX4_removeLatest 18 = .ok (.ireturn, 1) := by decide +kernel
set_option maxRecDepth 20000 in
theorem ggX4_arrange_X4_dayInOrder : GoodIn wsX4_arrange wsX4_dayInOrder := goodIn_r _ [8, 2, 3, 9, 10, 11, 14, 15, 16, 17] (by decide +kernel) (by decide +kernel)
set_option maxRecDepth 20000 in
theorem gX4_arrange_X4_dayInOrder : GoodIn wsX4_arrange (wsV RX4 32 RX4 yX4_dayInOrder wsX4_dayInOrder) := goodIn_app (goodIn_of _ (by decide +kernel)) ggX4_arrange_X4_dayInOrder
set_option maxRecDepth 20000 in
theorem ggX4_arrange_X5_at : GoodIn wsX4_arrange wsX5_at := goodIn_r _ [11] (by decide +kernel) (by decide +kernel)
set_option maxRecDepth 20000 in
theorem gX4_arrange_X5_at_n36 : GoodIn wsX4_arrange (wsX5_at) := ggX4_arrange_X5_at
set_option maxRecDepth 20000 in
theorem ggX4_arrange_X5_put : GoodIn wsX4_arrange wsX5_put := goodIn_r _ [13] (by decide +kernel) (by decide +kernel)
set_option maxRecDepth 20000 in
theorem gX4_arrange_X5_put_n23 : GoodIn wsX4_arrange (wsX5_put) := ggX4_arrange_X5_put
theorem dX4_arrange_0 : decode cX4_arrange 0 = .ok (.iconst 0, 1) := by decide +kernel
theorem dX4_arrange_1 : decode cX4_arrange 1 = .ok (.istore_n 1, 1) := by decide +kernel
theorem dX4_arrange_2 : decode cX4_arrange 2 = .ok (.iload_n 1, 1) := by decide +kernel
theorem dX4_arrange_3 : decode cX4_arrange 3 = .ok (.aload_n 0, 1) := by decide +kernel
theorem dX4_arrange_4 : decode cX4_arrange 4 = .ok (.getfield 19, 3) := by decide +kernel
theorem dX4_arrange_7 : decode cX4_arrange 7 = .ok (.if_icmp .ge 66, 3) := by decide +kernel
theorem dX4_arrange_10 : decode cX4_arrange 10 = .ok (.iload_n 1, 1) := by decide +kernel
theorem dX4_arrange_11 : decode cX4_arrange 11 = .ok (.istore_n 2, 1) := by decide +kernel
theorem dX4_arrange_12 : decode cX4_arrange 12 = .ok (.iload_n 2, 1) := by decide +kernel
theorem dX4_arrange_13 : decode cX4_arrange 13 = .ok (.ifCond .le 45, 3) := by decide +kernel
theorem dX4_arrange_16 : decode cX4_arrange 16 = .ok (.aload_n 0, 1) := by decide +kernel
theorem dX4_arrange_17 : decode cX4_arrange 17 = .ok (.iload_n 2, 1) := by decide +kernel
theorem dX4_arrange_18 : decode cX4_arrange 18 = .ok (.iconst 1, 1) := by decide +kernel
theorem dX4_arrange_19 : decode cX4_arrange 19 = .ok (.isub, 1) := by decide +kernel
theorem dX4_arrange_20 : decode cX4_arrange 20 = .ok (.invokevirtual 32, 3) := by decide +kernel
theorem dX4_arrange_23 : decode cX4_arrange 23 = .ok (.aload_n 0, 1) := by decide +kernel
theorem dX4_arrange_24 : decode cX4_arrange 24 = .ok (.getfield 9, 3) := by decide +kernel
theorem dX4_arrange_27 : decode cX4_arrange 27 = .ok (.iload_n 1, 1) := by decide +kernel
theorem dX4_arrange_28 : decode cX4_arrange 28 = .ok (.invokestatic 36, 3) := by decide +kernel
theorem dX4_arrange_31 : decode cX4_arrange 31 = .ok (.if_icmp .le 27, 3) := by decide +kernel
theorem dX4_arrange_34 : decode cX4_arrange 34 = .ok (.aload_n 0, 1) := by decide +kernel
theorem dX4_arrange_35 : decode cX4_arrange 35 = .ok (.getfield 16, 3) := by decide +kernel
theorem dX4_arrange_38 : decode cX4_arrange 38 = .ok (.iload_n 2, 1) := by decide +kernel
theorem dX4_arrange_39 : decode cX4_arrange 39 = .ok (.aload_n 0, 1) := by decide +kernel
theorem dX4_arrange_40 : decode cX4_arrange 40 = .ok (.getfield 16, 3) := by decide +kernel
theorem dX4_arrange_43 : decode cX4_arrange 43 = .ok (.iload_n 2, 1) := by decide +kernel
theorem dX4_arrange_44 : decode cX4_arrange 44 = .ok (.iconst 1, 1) := by decide +kernel
theorem dX4_arrange_45 : decode cX4_arrange 45 = .ok (.isub, 1) := by decide +kernel
theorem dX4_arrange_46 : decode cX4_arrange 46 = .ok (.invokestatic 36, 3) := by decide +kernel
theorem dX4_arrange_49 : decode cX4_arrange 49 = .ok (.invokestatic 23, 3) := by decide +kernel
theorem dX4_arrange_52 : decode cX4_arrange 52 = .ok (.iinc 2 (-1), 3) := by decide +kernel
theorem dX4_arrange_55 : decode cX4_arrange 55 = .ok (.goto (-43), 3) := by decide +kernel
theorem dX4_arrange_58 : decode cX4_arrange 58 = .ok (.aload_n 0, 1) := by decide +kernel
theorem dX4_arrange_59 : decode cX4_arrange 59 = .ok (.getfield 16, 3) := by decide +kernel
theorem dX4_arrange_62 : decode cX4_arrange 62 = .ok (.iload_n 2, 1) := by decide +kernel
theorem dX4_arrange_63 : decode cX4_arrange 63 = .ok (.iload_n 1, 1) := by decide +kernel
theorem dX4_arrange_64 : decode cX4_arrange 64 = .ok (.invokestatic 23, 3) := by decide +kernel
theorem dX4_arrange_67 : decode cX4_arrange 67 = .ok (.iinc 1 1, 3) := by decide +kernel
theorem dX4_arrange_70 : decode cX4_arrange 70 = .ok (.goto (-68), 3) := by decide +kernel
theorem dX4_arrange_73 : decode cX4_arrange 73 = .ok (.return_, 1) := by decide +kernel
set_option maxRecDepth 20000 in
theorem ggX4_dayInOrder_X5_at : GoodIn wsX4_dayInOrder wsX5_at := goodIn_r _ [5] (by decide +kernel) (by decide +kernel)
set_option maxRecDepth 20000 in
theorem gX4_dayInOrder_X5_at_n36 : GoodIn wsX4_dayInOrder (wsX5_at) := ggX4_dayInOrder_X5_at
theorem dX4_dayInOrder_0 : decode cX4_dayInOrder 0 = .ok (.aload_n 0, 1) := by decide +kernel
theorem dX4_dayInOrder_1 : decode cX4_dayInOrder 1 = .ok (.getfield 9, 3) := by decide +kernel
theorem dX4_dayInOrder_4 : decode cX4_dayInOrder 4 = .ok (.aload_n 0, 1) := by decide +kernel
theorem dX4_dayInOrder_5 : decode cX4_dayInOrder 5 = .ok (.getfield 16, 3) := by decide +kernel
theorem dX4_dayInOrder_8 : decode cX4_dayInOrder 8 = .ok (.iload_n 1, 1) := by decide +kernel
theorem dX4_dayInOrder_9 : decode cX4_dayInOrder 9 = .ok (.invokestatic 36, 3) := by decide +kernel
theorem dX4_dayInOrder_12 : decode cX4_dayInOrder 12 = .ok (.invokestatic 36, 3) := by decide +kernel
theorem dX4_dayInOrder_15 : decode cX4_dayInOrder 15 = .ok (.ireturn, 1) := by decide +kernel
set_option maxRecDepth 20000 in
theorem ggX4_levelInOrder_X5_at : GoodIn wsX4_levelInOrder wsX5_at := goodIn_r _ [5] (by decide +kernel) (by decide +kernel)
set_option maxRecDepth 20000 in
theorem gX4_levelInOrder_X5_at_n36 : GoodIn wsX4_levelInOrder (wsX5_at) := ggX4_levelInOrder_X5_at
theorem dX4_levelInOrder_0 : decode cX4_levelInOrder 0 = .ok (.aload_n 0, 1) := by decide +kernel
theorem dX4_levelInOrder_1 : decode cX4_levelInOrder 1 = .ok (.getfield 13, 3) := by decide +kernel
theorem dX4_levelInOrder_4 : decode cX4_levelInOrder 4 = .ok (.aload_n 0, 1) := by decide +kernel
theorem dX4_levelInOrder_5 : decode cX4_levelInOrder 5 = .ok (.getfield 16, 3) := by decide +kernel
theorem dX4_levelInOrder_8 : decode cX4_levelInOrder 8 = .ok (.iload_n 1, 1) := by decide +kernel
theorem dX4_levelInOrder_9 : decode cX4_levelInOrder 9 = .ok (.invokestatic 36, 3) := by decide +kernel
theorem dX4_levelInOrder_12 : decode cX4_levelInOrder 12 = .ok (.invokestatic 36, 3) := by decide +kernel
theorem dX4_levelInOrder_15 : decode cX4_levelInOrder 15 = .ok (.ireturn, 1) := by decide +kernel
end
section
set_option maxRecDepth 20000 in
theorem ggX5_init_X1_init : GoodIn wsX5_init wsX1_init := goodIn_r _ [22, 23, 2, 3, 24, 25, 26, 27, 28, 29, 30, 56, 57, 58, 59, 60, 61] (by decide +kernel) (by decide +kernel)
set_option maxRecDepth 20000 in
theorem gX5_init_X1_init_n9 : GoodIn wsX5_init (wsX1_init) := ggX5_init_X1_init
set_option maxRecDepth 20000 in
theorem ggX5_init_X2_init : GoodIn wsX5_init wsX2_init := goodIn_r _ [32, 33, 2, 3, 34, 35, 36, 67, 68] (by decide +kernel) (by decide +kernel)
set_option maxRecDepth 20000 in
theorem gX5_init_X2_init_n18 : GoodIn wsX5_init (wsX2_init) := ggX5_init_X2_init
set_option maxRecDepth 20000 in
theorem ggX5_init_X4_init : GoodIn wsX5_init wsX4_init := goodIn_r _ [38, 39, 2, 3, 24, 40, 41, 42, 43, 69, 70, 71, 72] (by decide +kernel) (by decide +kernel)
set_option maxRecDepth 20000 in
theorem gX5_init_X4_init_n25 : GoodIn wsX5_init (wsX4_init) := ggX5_init_X4_init
set_option maxRecDepth 20000 in
theorem ggX5_init_X0_init : GoodIn wsX5_init wsX0_init := goodIn_r _ [46, 47, 2, 3, 24, 48, 49, 50, 51, 52, 53, 54, 55, 73, 74, 75, 76, 77, 78, 79, 80] (by decide +kernel) (by decide +kernel)
set_option maxRecDepth 20000 in
theorem gX5_init_X0_init : GoodIn wsX5_init (wsX0_init) := ggX5_init_X0_init
theorem dX5_init_0 : decode cX5_init 0 = .ok (.aload_n 0, 1) := by decide +kernel
theorem dX5_init_1 : decode cX5_init 1 = .ok (.invokespecial 1, 3) := by decide +kernel
theorem dX5_init_4 : decode cX5_init 4 = .ok (.aload_n 0, 1) := by decide +kernel
theorem dX5_init_5 : decode cX5_init 5 = .ok (.new 7, 3) := by decide +kernel
theorem dX5_init_8 : decode cX5_init 8 = .ok (.dup, 1) := by decide +kernel
theorem dX5_init_9 : decode cX5_init 9 = .ok (.invokespecial 9, 3) := by decide +kernel
theorem dX5_init_12 : decode cX5_init 12 = .ok (.putfield 10, 3) := by decide +kernel
theorem dX5_init_15 : decode cX5_init 15 = .ok (.aload_n 0, 1) := by decide +kernel
theorem dX5_init_16 : decode cX5_init 16 = .ok (.new 16, 3) := by decide +kernel
theorem dX5_init_19 : decode cX5_init 19 = .ok (.dup, 1) := by decide +kernel
theorem dX5_init_20 : decode cX5_init 20 = .ok (.invokespecial 18, 3) := by decide +kernel
theorem dX5_init_23 : decode cX5_init 23 = .ok (.putfield 19, 3) := by decide +kernel
theorem dX5_init_26 : decode cX5_init 26 = .ok (.aload_n 0, 1) := by decide +kernel
theorem dX5_init_27 : decode cX5_init 27 = .ok (.new 23, 3) := by decide +kernel
theorem dX5_init_30 : decode cX5_init 30 = .ok (.dup, 1) := by decide +kernel
theorem dX5_init_31 : decode cX5_init 31 = .ok (.invokespecial 25, 3) := by decide +kernel
theorem dX5_init_34 : decode cX5_init 34 = .ok (.putfield 26, 3) := by decide +kernel
theorem dX5_init_37 : decode cX5_init 37 = .ok (.aload_n 0, 1) := by decide +kernel
theorem dX5_init_38 : decode cX5_init 38 = .ok (.new 30, 3) := by decide +kernel
theorem dX5_init_41 : decode cX5_init 41 = .ok (.dup, 1) := by decide +kernel
theorem dX5_init_42 : decode cX5_init 42 = .ok (.aload_n 0, 1) := by decide +kernel
theorem dX5_init_43 : decode cX5_init 43 = .ok (.getfield 10, 3) := by decide +kernel
theorem dX5_init_46 : decode cX5_init 46 = .ok (.aload_n 0, 1) := by decide +kernel
theorem dX5_init_47 : decode cX5_init 47 = .ok (.getfield 19, 3) := by decide +kernel
theorem dX5_init_50 : decode cX5_init 50 = .ok (.aload_n 0, 1) := by decide +kernel
theorem dX5_init_51 : decode cX5_init 51 = .ok (.getfield 26, 3) := by decide +kernel
theorem dX5_init_54 : decode cX5_init 54 = .ok (.invokespecial 32, 3) := by decide +kernel
theorem dX5_init_57 : decode cX5_init 57 = .ok (.putfield 35, 3) := by decide +kernel
theorem dX5_init_60 : decode cX5_init 60 = .ok (.aload_n 0, 1) := by decide +kernel
theorem dX5_init_61 : decode cX5_init 61 = .ok (.lconst 0, 1) := by decide +kernel
theorem dX5_init_62 : decode cX5_init 62 = .ok (.putfield 39, 3) := by decide +kernel
theorem dX5_init_65 : decode cX5_init 65 = .ok (.return_, 1) := by decide +kernel
set_option maxRecDepth 20000 in
theorem ggX5_set_X5_within : GoodIn wsX5_set wsX5_within := goodIn_r _ [5] (by decide +kernel) (by decide +kernel)
set_option maxRecDepth 20000 in
theorem gX5_set_X5_within : GoodIn wsX5_set (va_wsS RX5 43 yX5_within wsX5_within) := goodIn_app (goodIn_of _ (by decide +kernel)) ggX5_set_X5_within
set_option maxRecDepth 20000 in
theorem ggX5_set_X1_changeRoom : GoodIn wsX5_set wsX1_changeRoom := goodIn_r _ [10, 11, 27, 28, 29, 30, 31, 32] (by decide +kernel) (by decide +kernel)
set_option maxRecDepth 20000 in
theorem gX5_set_X1_changeRoom : GoodIn wsX5_set (wsV RX5 47 RX1 yX1_changeRoom wsX1_changeRoom) := goodIn_app (goodIn_of _ (by decide +kernel)) ggX5_set_X1_changeRoom
set_option maxRecDepth 20000 in
theorem ggX5_set_X1_changeLeak : GoodIn wsX5_set wsX1_changeLeak := goodIn_r _ [15, 16, 27, 28, 29, 30, 31, 32] (by decide +kernel) (by decide +kernel)
set_option maxRecDepth 20000 in
theorem gX5_set_X1_changeLeak : GoodIn wsX5_set (wsV RX5 51 RX1 yX1_changeLeak wsX1_changeLeak) := goodIn_app (goodIn_of _ (by decide +kernel)) ggX5_set_X1_changeLeak
set_option maxRecDepth 20000 in
theorem ggX5_set_X1_changeBar : GoodIn wsX5_set wsX1_changeBar := goodIn_r _ [20, 21, 27, 28, 29, 30, 31, 32] (by decide +kernel) (by decide +kernel)
set_option maxRecDepth 20000 in
theorem gX5_set_X1_changeBar : GoodIn wsX5_set (wsV RX5 54 RX1 yX1_changeBar wsX1_changeBar) := goodIn_app (goodIn_of _ (by decide +kernel)) ggX5_set_X1_changeBar
theorem dX5_set_0 : decode cX5_set 0 = .ok (.iload_n 1, 1) := by decide +kernel
theorem dX5_set_1 : decode cX5_set 1 = .ok (.tableswitch 98 0 2 #[27, 51, 74], 27) := by decide +kernel
theorem dX5_set_28 : decode cX5_set 28 = .ok (.iload_n 2, 1) := by decide +kernel
theorem dX5_set_29 : decode cX5_set 29 = .ok (.iconst 1, 1) := by decide +kernel
theorem dX5_set_30 : decode cX5_set 30 = .ok (.sipush 5000, 3) := by decide +kernel
theorem dX5_set_33 : decode cX5_set 33 = .ok (.invokestatic 43, 3) := by decide +kernel
theorem dX5_set_36 : decode cX5_set 36 = .ok (.ifCond .eq 14, 3) := by decide +kernel
theorem dX5_set_39 : decode cX5_set 39 = .ok (.aload_n 0, 1) := by decide +kernel
theorem dX5_set_40 : decode cX5_set 40 = .ok (.getfield 10, 3) := by decide +kernel
theorem dX5_set_43 : decode cX5_set 43 = .ok (.iload_n 2, 1) := by decide +kernel
theorem dX5_set_44 : decode cX5_set 44 = .ok (.invokevirtual 47, 3) := by decide +kernel
theorem dX5_set_47 : decode cX5_set 47 = .ok (.goto 4, 3) := by decide +kernel
theorem dX5_set_50 : decode cX5_set 50 = .ok (.iconst (-1), 1) := by decide +kernel
theorem dX5_set_51 : decode cX5_set 51 = .ok (.ireturn, 1) := by decide +kernel
theorem dX5_set_52 : decode cX5_set 52 = .ok (.iload_n 2, 1) := by decide +kernel
theorem dX5_set_53 : decode cX5_set 53 = .ok (.iconst 0, 1) := by decide +kernel
theorem dX5_set_54 : decode cX5_set 54 = .ok (.bipush 20, 2) := by decide +kernel
theorem dX5_set_56 : decode cX5_set 56 = .ok (.invokestatic 43, 3) := by decide +kernel
theorem dX5_set_59 : decode cX5_set 59 = .ok (.ifCond .eq 14, 3) := by decide +kernel
theorem dX5_set_62 : decode cX5_set 62 = .ok (.aload_n 0, 1) := by decide +kernel
theorem dX5_set_63 : decode cX5_set 63 = .ok (.getfield 10, 3) := by decide +kernel
theorem dX5_set_66 : decode cX5_set 66 = .ok (.iload_n 2, 1) := by decide +kernel
theorem dX5_set_67 : decode cX5_set 67 = .ok (.invokevirtual 51, 3) := by decide +kernel
theorem dX5_set_70 : decode cX5_set 70 = .ok (.goto 4, 3) := by decide +kernel
theorem dX5_set_73 : decode cX5_set 73 = .ok (.iconst (-1), 1) := by decide +kernel
theorem dX5_set_74 : decode cX5_set 74 = .ok (.ireturn, 1) := by decide +kernel
theorem dX5_set_75 : decode cX5_set 75 = .ok (.iload_n 2, 1) := by decide +kernel
theorem dX5_set_76 : decode cX5_set 76 = .ok (.iconst 1, 1) := by decide +kernel
theorem dX5_set_77 : decode cX5_set 77 = .ok (.sipush 500, 3) := by decide +kernel
theorem dX5_set_80 : decode cX5_set 80 = .ok (.invokestatic 43, 3) := by decide +kernel
theorem dX5_set_83 : decode cX5_set 83 = .ok (.ifCond .eq 14, 3) := by decide +kernel
theorem dX5_set_86 : decode cX5_set 86 = .ok (.aload_n 0, 1) := by decide +kernel
theorem dX5_set_87 : decode cX5_set 87 = .ok (.getfield 10, 3) := by decide +kernel
theorem dX5_set_90 : decode cX5_set 90 = .ok (.iload_n 2, 1) := by decide +kernel
theorem dX5_set_91 : decode cX5_set 91 = .ok (.invokevirtual 54, 3) := by decide +kernel
theorem dX5_set_94 : decode cX5_set 94 = .ok (.goto 4, 3) := by decide +kernel
theorem dX5_set_97 : decode cX5_set 97 = .ok (.iconst (-1), 1) := by decide +kernel
theorem dX5_set_98 : decode cX5_set 98 = .ok (.ireturn, 1) := by decide +kernel
theorem dX5_set_99 : decode cX5_set 99 = .ok (.iconst (-1), 1) := by decide +kernel
theorem dX5_set_100 : decode cX5_set 100 = .ok (.ireturn, 1) := by decide +kernel
set_option maxRecDepth 20000 in
theorem ggX5_shares_X5_within : GoodIn wsX5_shares wsX5_within := goodIn_r _ [5] (by decide +kernel) (by decide +kernel)
set_option maxRecDepth 20000 in
theorem gX5_shares_X5_within : GoodIn wsX5_shares (va_wsS RX5 43 yX5_within wsX5_within) := goodIn_app (goodIn_of _ (by decide +kernel)) ggX5_shares_X5_within
set_option maxRecDepth 20000 in
theorem ggX5_shares_X1_changeShares : GoodIn wsX5_shares wsX1_changeShares := goodIn_r _ [10, 11, 12, 4, 13, 19, 20, 21, 22, 23, 24] (by decide +kernel) (by decide +kernel)
set_option maxRecDepth 20000 in
theorem gX5_shares_X1_changeShares : GoodIn wsX5_shares (wsV RX5 57 RX1 yX1_changeShares wsX1_changeShares) := goodIn_app (goodIn_of _ (by decide +kernel)) ggX5_shares_X1_changeShares
theorem dX5_shares_0 : decode cX5_shares 0 = .ok (.iload_n 1, 1) := by decide +kernel
theorem dX5_shares_1 : decode cX5_shares 1 = .ok (.bipush 10, 2) := by decide +kernel
theorem dX5_shares_3 : decode cX5_shares 3 = .ok (.bipush 100, 2) := by decide +kernel
theorem dX5_shares_5 : decode cX5_shares 5 = .ok (.invokestatic 43, 3) := by decide +kernel
theorem dX5_shares_8 : decode cX5_shares 8 = .ok (.ifCond .eq 23, 3) := by decide +kernel
theorem dX5_shares_11 : decode cX5_shares 11 = .ok (.iload_n 2, 1) := by decide +kernel
theorem dX5_shares_12 : decode cX5_shares 12 = .ok (.bipush 10, 2) := by decide +kernel
theorem dX5_shares_14 : decode cX5_shares 14 = .ok (.iload_n 1, 1) := by decide +kernel
theorem dX5_shares_15 : decode cX5_shares 15 = .ok (.invokestatic 43, 3) := by decide +kernel
theorem dX5_shares_18 : decode cX5_shares 18 = .ok (.ifCond .eq 13, 3) := by decide +kernel
theorem dX5_shares_21 : decode cX5_shares 21 = .ok (.iload_n 3, 1) := by decide +kernel
theorem dX5_shares_22 : decode cX5_shares 22 = .ok (.bipush 10, 2) := by decide +kernel
theorem dX5_shares_24 : decode cX5_shares 24 = .ok (.iload_n 2, 1) := by decide +kernel
theorem dX5_shares_25 : decode cX5_shares 25 = .ok (.invokestatic 43, 3) := by decide +kernel
theorem dX5_shares_28 : decode cX5_shares 28 = .ok (.ifCond .ne 5, 3) := by decide +kernel
theorem dX5_shares_31 : decode cX5_shares 31 = .ok (.iconst (-1), 1) := by decide +kernel
theorem dX5_shares_32 : decode cX5_shares 32 = .ok (.ireturn, 1) := by decide +kernel
theorem dX5_shares_33 : decode cX5_shares 33 = .ok (.aload_n 0, 1) := by decide +kernel
theorem dX5_shares_34 : decode cX5_shares 34 = .ok (.getfield 10, 3) := by decide +kernel
theorem dX5_shares_37 : decode cX5_shares 37 = .ok (.iload_n 1, 1) := by decide +kernel
theorem dX5_shares_38 : decode cX5_shares 38 = .ok (.iload_n 2, 1) := by decide +kernel
theorem dX5_shares_39 : decode cX5_shares 39 = .ok (.iload_n 3, 1) := by decide +kernel
theorem dX5_shares_40 : decode cX5_shares 40 = .ok (.invokevirtual 57, 3) := by decide +kernel
theorem dX5_shares_43 : decode cX5_shares 43 = .ok (.iconst 1, 1) := by decide +kernel
theorem dX5_shares_44 : decode cX5_shares 44 = .ok (.ireturn, 1) := by decide +kernel
set_option maxRecDepth 20000 in
theorem ggX5_season_X5_within : GoodIn wsX5_season wsX5_within := goodIn_r _ [5] (by decide +kernel) (by decide +kernel)
set_option maxRecDepth 20000 in
theorem gX5_season_X5_within : GoodIn wsX5_season (va_wsS RX5 43 yX5_within wsX5_within) := goodIn_app (goodIn_of _ (by decide +kernel)) ggX5_season_X5_within
set_option maxRecDepth 20000 in
theorem ggX5_season_X5_powerOfThree : GoodIn wsX5_season wsX5_powerOfThree := goodIn_r _ [8] (by decide +kernel) (by decide +kernel)
set_option maxRecDepth 20000 in
theorem gX5_season_X5_powerOfThree : GoodIn wsX5_season (va_wsS RX5 61 yX5_powerOfThree wsX5_powerOfThree) := goodIn_app (goodIn_of _ (by decide +kernel)) ggX5_season_X5_powerOfThree
set_option maxRecDepth 20000 in
theorem ggX5_season_X1_changeSeason : GoodIn wsX5_season wsX1_changeSeason := goodIn_r _ [13, 14, 15, 16, 4, 17, 23, 24, 25, 26, 27, 28] (by decide +kernel) (by decide +kernel)
set_option maxRecDepth 20000 in
theorem gX5_season_X1_changeSeason : GoodIn wsX5_season (wsV RX5 64 RX1 yX1_changeSeason wsX1_changeSeason) := goodIn_app (goodIn_of _ (by decide +kernel)) ggX5_season_X1_changeSeason
theorem dX5_season_0 : decode cX5_season 0 = .ok (.iload_n 1, 1) := by decide +kernel
theorem dX5_season_1 : decode cX5_season 1 = .ok (.iconst 1, 1) := by decide +kernel
theorem dX5_season_2 : decode cX5_season 2 = .ok (.bipush 12, 2) := by decide +kernel
theorem dX5_season_4 : decode cX5_season 4 = .ok (.invokestatic 43, 3) := by decide +kernel
theorem dX5_season_7 : decode cX5_season 7 = .ok (.ifCond .eq 17, 3) := by decide +kernel
theorem dX5_season_10 : decode cX5_season 10 = .ok (.iload_n 2, 1) := by decide +kernel
theorem dX5_season_11 : decode cX5_season 11 = .ok (.iconst 0, 1) := by decide +kernel
theorem dX5_season_12 : decode cX5_season 12 = .ok (.iload_n 1, 1) := by decide +kernel
theorem dX5_season_13 : decode cX5_season 13 = .ok (.invokestatic 61, 3) := by decide +kernel
theorem dX5_season_16 : decode cX5_season 16 = .ok (.iconst 1, 1) := by decide +kernel
theorem dX5_season_17 : decode cX5_season 17 = .ok (.isub, 1) := by decide +kernel
theorem dX5_season_18 : decode cX5_season 18 = .ok (.invokestatic 43, 3) := by decide +kernel
theorem dX5_season_21 : decode cX5_season 21 = .ok (.ifCond .ne 5, 3) := by decide +kernel
theorem dX5_season_24 : decode cX5_season 24 = .ok (.iconst (-1), 1) := by decide +kernel
theorem dX5_season_25 : decode cX5_season 25 = .ok (.ireturn, 1) := by decide +kernel
theorem dX5_season_26 : decode cX5_season 26 = .ok (.aload_n 0, 1) := by decide +kernel
theorem dX5_season_27 : decode cX5_season 27 = .ok (.getfield 10, 3) := by decide +kernel
theorem dX5_season_30 : decode cX5_season 30 = .ok (.iload_n 1, 1) := by decide +kernel
theorem dX5_season_31 : decode cX5_season 31 = .ok (.iload_n 2, 1) := by decide +kernel
theorem dX5_season_32 : decode cX5_season 32 = .ok (.invokevirtual 64, 3) := by decide +kernel
theorem dX5_season_35 : decode cX5_season 35 = .ok (.iload_n 1, 1) := by decide +kernel
theorem dX5_season_36 : decode cX5_season 36 = .ok (.ireturn, 1) := by decide +kernel
set_option maxRecDepth 20000 in
theorem ggX5_share_X5_isDay : GoodIn wsX5_share wsX5_isDay := goodIn_r _ [5, 6, 7, 4, 8] (by decide +kernel) (by decide +kernel)
set_option maxRecDepth 20000 in
theorem gX5_share_X5_isDay : GoodIn wsX5_share (va_wsS RX5 68 yX5_isDay wsX5_isDay) := goodIn_app (goodIn_of _ (by decide +kernel)) ggX5_share_X5_isDay
set_option maxRecDepth 20000 in
theorem ggX5_share_X1_shareOn : GoodIn wsX5_share wsX1_shareOn := goodIn_r _ [13, 14, 15, 16, 17, 4, 18, 24, 25, 26, 27, 28, 29] (by decide +kernel) (by decide +kernel)
set_option maxRecDepth 20000 in
theorem gX5_share_X1_shareOn : GoodIn wsX5_share (wsV RX5 72 RX1 yX1_shareOn wsX1_shareOn) := goodIn_app (goodIn_of _ (by decide +kernel)) ggX5_share_X1_shareOn
theorem dX5_share_0 : decode cX5_share 0 = .ok (.iload_n 1, 1) := by decide +kernel
theorem dX5_share_1 : decode cX5_share 1 = .ok (.invokestatic 68, 3) := by decide +kernel
theorem dX5_share_4 : decode cX5_share 4 = .ok (.ifCond .eq 14, 3) := by decide +kernel
theorem dX5_share_7 : decode cX5_share 7 = .ok (.aload_n 0, 1) := by decide +kernel
theorem dX5_share_8 : decode cX5_share 8 = .ok (.getfield 10, 3) := by decide +kernel
theorem dX5_share_11 : decode cX5_share 11 = .ok (.iload_n 1, 1) := by decide +kernel
theorem dX5_share_12 : decode cX5_share 12 = .ok (.invokevirtual 72, 3) := by decide +kernel
theorem dX5_share_15 : decode cX5_share 15 = .ok (.goto 4, 3) := by decide +kernel
theorem dX5_share_18 : decode cX5_share 18 = .ok (.iconst (-1), 1) := by decide +kernel
theorem dX5_share_19 : decode cX5_share 19 = .ok (.ireturn, 1) := by decide +kernel
set_option maxRecDepth 20000 in
theorem ggX5_duty_X5_within : GoodIn wsX5_duty wsX5_within := goodIn_r _ [8] (by decide +kernel) (by decide +kernel)
set_option maxRecDepth 20000 in
theorem gX5_duty_X5_within : GoodIn wsX5_duty (va_wsS RX5 43 yX5_within wsX5_within) := goodIn_app (goodIn_of _ (by decide +kernel)) ggX5_duty_X5_within
set_option maxRecDepth 20000 in
theorem ggX5_duty_X5_isTries : GoodIn wsX5_duty wsX5_isTries := goodIn_r _ [11, 5, 6, 7, 8] (by decide +kernel) (by decide +kernel)
set_option maxRecDepth 20000 in
theorem gX5_duty_X5_isTries : GoodIn wsX5_duty (va_wsS RX5 75 yX5_isTries wsX5_isTries) := goodIn_app (goodIn_of _ (by decide +kernel)) ggX5_duty_X5_isTries
set_option maxRecDepth 20000 in
theorem ggX5_duty_X2_isFull : GoodIn wsX5_duty wsX2_isFull := goodIn_r _ [16, 17, 18, 48, 49] (by decide +kernel) (by decide +kernel)
set_option maxRecDepth 20000 in
theorem gX5_duty_X2_isFull : GoodIn wsX5_duty (wsV RX5 78 RX2 yX2_isFull wsX2_isFull) := goodIn_app (goodIn_of _ (by decide +kernel)) ggX5_duty_X2_isFull
set_option maxRecDepth 20000 in
theorem ggX5_duty_X3_init : GoodIn wsX5_duty wsX3_init := goodIn_r _ [21, 22, 23, 24, 25, 26, 27, 28, 29, 30, 31, 41, 42, 43, 44, 45, 46, 47] (by decide +kernel) (by decide +kernel)
set_option maxRecDepth 20000 in
theorem gX5_duty_X3_init : GoodIn wsX5_duty (wsX3_init) := ggX5_duty_X3_init
set_option maxRecDepth 20000 in
theorem ggX5_duty_X2_add : GoodIn wsX5_duty wsX2_add := goodIn_r _ [35, 17, 18, 48, 49] (by decide +kernel) (by decide +kernel)
set_option maxRecDepth 20000 in
theorem gX5_duty_X2_add : GoodIn wsX5_duty (wsV RX5 87 RX2 yX2_add wsX2_add) := goodIn_app (goodIn_of _ (by decide +kernel)) ggX5_duty_X2_add
theorem dX5_duty_0 : decode cX5_duty 0 = .ok (.iload_n 1, 1) := by decide +kernel
theorem dX5_duty_1 : decode cX5_duty 1 = .ok (.iconst 0, 1) := by decide +kernel
theorem dX5_duty_2 : decode cX5_duty 2 = .ok (.iconst 2, 1) := by decide +kernel
theorem dX5_duty_3 : decode cX5_duty 3 = .ok (.invokestatic 43, 3) := by decide +kernel
theorem dX5_duty_6 : decode cX5_duty 6 = .ok (.ifCond .eq 38, 3) := by decide +kernel
theorem dX5_duty_9 : decode cX5_duty 9 = .ok (.iload_n 2, 1) := by decide +kernel
theorem dX5_duty_10 : decode cX5_duty 10 = .ok (.iconst 1, 1) := by decide +kernel
theorem dX5_duty_11 : decode cX5_duty 11 = .ok (.bipush 100, 2) := by decide +kernel
theorem dX5_duty_13 : decode cX5_duty 13 = .ok (.invokestatic 43, 3) := by decide +kernel
theorem dX5_duty_16 : decode cX5_duty 16 = .ok (.ifCond .eq 28, 3) := by decide +kernel
theorem dX5_duty_19 : decode cX5_duty 19 = .ok (.iload_n 3, 1) := by decide +kernel
theorem dX5_duty_20 : decode cX5_duty 20 = .ok (.iconst 1, 1) := by decide +kernel
theorem dX5_duty_21 : decode cX5_duty 21 = .ok (.bipush 20, 2) := by decide +kernel
theorem dX5_duty_23 : decode cX5_duty 23 = .ok (.invokestatic 43, 3) := by decide +kernel
theorem dX5_duty_26 : decode cX5_duty 26 = .ok (.ifCond .eq 18, 3) := by decide +kernel
theorem dX5_duty_29 : decode cX5_duty 29 = .ok (.iload 6, 2) := by decide +kernel
theorem dX5_duty_31 : decode cX5_duty 31 = .ok (.iconst 0, 1) := by decide +kernel
theorem dX5_duty_32 : decode cX5_duty 32 = .ok (.bipush 100, 2) := by decide +kernel
theorem dX5_duty_34 : decode cX5_duty 34 = .ok (.invokestatic 43, 3) := by decide +kernel
theorem dX5_duty_37 : decode cX5_duty 37 = .ok (.ifCond .eq 7, 3) := by decide +kernel
theorem dX5_duty_40 : decode cX5_duty 40 = .ok (.iconst 1, 1) := by decide +kernel
theorem dX5_duty_41 : decode cX5_duty 41 = .ok (.goto 4, 3) := by decide +kernel
theorem dX5_duty_44 : decode cX5_duty 44 = .ok (.iconst 0, 1) := by decide +kernel
theorem dX5_duty_45 : decode cX5_duty 45 = .ok (.istore 7, 2) := by decide +kernel
theorem dX5_duty_47 : decode cX5_duty 47 = .ok (.iload_n 1, 1) := by decide +kernel
theorem dX5_duty_48 : decode cX5_duty 48 = .ok (.ifCond .eq 14, 3) := by decide +kernel
theorem dX5_duty_51 : decode cX5_duty 51 = .ok (.iload 4, 2) := by decide +kernel
theorem dX5_duty_53 : decode cX5_duty 53 = .ok (.iconst 0, 1) := by decide +kernel
theorem dX5_duty_54 : decode cX5_duty 54 = .ok (.bipush 100, 2) := by decide +kernel
theorem dX5_duty_56 : decode cX5_duty 56 = .ok (.invokestatic 43, 3) := by decide +kernel
theorem dX5_duty_59 : decode cX5_duty 59 = .ok (.ifCond .eq 7, 3) := by decide +kernel
theorem dX5_duty_62 : decode cX5_duty 62 = .ok (.iconst 1, 1) := by decide +kernel
theorem dX5_duty_63 : decode cX5_duty 63 = .ok (.goto 4, 3) := by decide +kernel
theorem dX5_duty_66 : decode cX5_duty 66 = .ok (.iconst 0, 1) := by decide +kernel
theorem dX5_duty_67 : decode cX5_duty 67 = .ok (.istore 8, 2) := by decide +kernel
theorem dX5_duty_69 : decode cX5_duty 69 = .ok (.iload_n 1, 1) := by decide +kernel
theorem dX5_duty_70 : decode cX5_duty 70 = .ok (.iconst 2, 1) := by decide +kernel
theorem dX5_duty_71 : decode cX5_duty 71 = .ok (.if_icmp .ne 11, 3) := by decide +kernel
theorem dX5_duty_74 : decode cX5_duty 74 = .ok (.iload 5, 2) := by decide +kernel
theorem dX5_duty_76 : decode cX5_duty 76 = .ok (.invokestatic 75, 3) := by decide +kernel
theorem dX5_duty_79 : decode cX5_duty 79 = .ok (.ifCond .eq 7, 3) := by decide +kernel
theorem dX5_duty_82 : decode cX5_duty 82 = .ok (.iconst 1, 1) := by decide +kernel
theorem dX5_duty_83 : decode cX5_duty 83 = .ok (.goto 4, 3) := by decide +kernel
theorem dX5_duty_86 : decode cX5_duty 86 = .ok (.iconst 0, 1) := by decide +kernel
theorem dX5_duty_87 : decode cX5_duty 87 = .ok (.istore 9, 2) := by decide +kernel
theorem dX5_duty_89 : decode cX5_duty 89 = .ok (.iload 7, 2) := by decide +kernel
theorem dX5_duty_91 : decode cX5_duty 91 = .ok (.ifCond .eq 13, 3) := by decide +kernel
theorem dX5_duty_94 : decode cX5_duty 94 = .ok (.iload 8, 2) := by decide +kernel
theorem dX5_duty_96 : decode cX5_duty 96 = .ok (.ifCond .eq 8, 3) := by decide +kernel
theorem dX5_duty_99 : decode cX5_duty 99 = .ok (.iload 9, 2) := by decide +kernel
theorem dX5_duty_101 : decode cX5_duty 101 = .ok (.ifCond .ne 5, 3) := by decide +kernel
theorem dX5_duty_104 : decode cX5_duty 104 = .ok (.iconst (-1), 1) := by decide +kernel
theorem dX5_duty_105 : decode cX5_duty 105 = .ok (.ireturn, 1) := by decide +kernel
theorem dX5_duty_106 : decode cX5_duty 106 = .ok (.aload_n 0, 1) := by decide +kernel
theorem dX5_duty_107 : decode cX5_duty 107 = .ok (.getfield 19, 3) := by decide +kernel
theorem dX5_duty_110 : decode cX5_duty 110 = .ok (.invokevirtual 78, 3) := by decide +kernel
theorem dX5_duty_113 : decode cX5_duty 113 = .ok (.ifCond .eq 6, 3) := by decide +kernel
theorem dX5_duty_116 : decode cX5_duty 116 = .ok (.bipush (-3), 2) := by decide +kernel
theorem dX5_duty_118 : decode cX5_duty 118 = .ok (.ireturn, 1) := by decide +kernel
theorem dX5_duty_119 : decode cX5_duty 119 = .ok (.aload_n 0, 1) := by decide +kernel
theorem dX5_duty_120 : decode cX5_duty 120 = .ok (.getfield 19, 3) := by decide +kernel
theorem dX5_duty_123 : decode cX5_duty 123 = .ok (.new 82, 3) := by decide +kernel
theorem dX5_duty_126 : decode cX5_duty 126 = .ok (.dup, 1) := by decide +kernel
theorem dX5_duty_127 : decode cX5_duty 127 = .ok (.iload_n 1, 1) := by decide +kernel
theorem dX5_duty_128 : decode cX5_duty 128 = .ok (.iload_n 2, 1) := by decide +kernel
theorem dX5_duty_129 : decode cX5_duty 129 = .ok (.iload_n 3, 1) := by decide +kernel
theorem dX5_duty_130 : decode cX5_duty 130 = .ok (.iload 4, 2) := by decide +kernel
theorem dX5_duty_132 : decode cX5_duty 132 = .ok (.iload 5, 2) := by decide +kernel
theorem dX5_duty_134 : decode cX5_duty 134 = .ok (.iload 6, 2) := by decide +kernel
theorem dX5_duty_136 : decode cX5_duty 136 = .ok (.invokespecial 84, 3) := by decide +kernel
theorem dX5_duty_139 : decode cX5_duty 139 = .ok (.invokevirtual 87, 3) := by decide +kernel
theorem dX5_duty_142 : decode cX5_duty 142 = .ok (.ireturn, 1) := by decide +kernel
set_option maxRecDepth 20000 in
theorem ggX5_on_X2_numbered : GoodIn wsX5_on wsX2_numbered := goodIn_r _ [6, 7, 8, 21, 22] (by decide +kernel) (by decide +kernel)
set_option maxRecDepth 20000 in
theorem gX5_on_X2_numbered : GoodIn wsX5_on (wsV RX5 91 RX2 yX2_numbered wsX2_numbered) := goodIn_app (goodIn_of _ (by decide +kernel)) ggX5_on_X2_numbered
theorem dX5_on_0 : decode cX5_on 0 = .ok (.aload_n 0, 1) := by decide +kernel
theorem dX5_on_1 : decode cX5_on 1 = .ok (.getfield 19, 3) := by decide +kernel
theorem dX5_on_4 : decode cX5_on 4 = .ok (.iload_n 1, 1) := by decide +kernel
theorem dX5_on_5 : decode cX5_on 5 = .ok (.invokevirtual 91, 3) := by decide +kernel
theorem dX5_on_8 : decode cX5_on 8 = .ok (.astore_n 3, 1) := by decide +kernel
theorem dX5_on_9 : decode cX5_on 9 = .ok (.aload_n 3, 1) := by decide +kernel
theorem dX5_on_10 : decode cX5_on 10 = .ok (.ifnonnull 5, 3) := by decide +kernel
theorem dX5_on_13 : decode cX5_on 13 = .ok (.iconst (-1), 1) := by decide +kernel
theorem dX5_on_14 : decode cX5_on 14 = .ok (.ireturn, 1) := by decide +kernel
theorem dX5_on_15 : decode cX5_on 15 = .ok (.aload_n 3, 1) := by decide +kernel
theorem dX5_on_16 : decode cX5_on 16 = .ok (.getfield 95, 3) := by decide +kernel
theorem dX5_on_19 : decode cX5_on 19 = .ok (.ifCond .eq 7, 3) := by decide +kernel
theorem dX5_on_22 : decode cX5_on 22 = .ok (.iconst 1, 1) := by decide +kernel
theorem dX5_on_23 : decode cX5_on 23 = .ok (.goto 4, 3) := by decide +kernel
theorem dX5_on_26 : decode cX5_on 26 = .ok (.iconst 0, 1) := by decide +kernel
theorem dX5_on_27 : decode cX5_on 27 = .ok (.istore 4, 2) := by decide +kernel
theorem dX5_on_29 : decode cX5_on 29 = .ok (.aload_n 3, 1) := by decide +kernel
theorem dX5_on_30 : decode cX5_on 30 = .ok (.iload_n 2, 1) := by decide +kernel
theorem dX5_on_31 : decode cX5_on 31 = .ok (.putfield 95, 3) := by decide +kernel
theorem dX5_on_34 : decode cX5_on 34 = .ok (.iload 4, 2) := by decide +kernel
theorem dX5_on_36 : decode cX5_on 36 = .ok (.ireturn, 1) := by decide +kernel
set_option maxRecDepth 20000 in
theorem ggX5_drop_X2_removeLatest : GoodIn wsX5_drop wsX2_removeLatest := goodIn_r _ [6, 7, 8, 14, 15] (by decide +kernel) (by decide +kernel)
set_option maxRecDepth 20000 in
theorem gX5_drop_X2_removeLatest : GoodIn wsX5_drop (wsV RX5 103 RX2 yX2_removeLatest wsX2_removeLatest) := goodIn_app (goodIn_of _ (by decide +kernel)) ggX5_drop_X2_removeLatest
theorem dX5_drop_0 : decode cX5_drop 0 = .ok (.aload_n 0, 1) := by decide +kernel
theorem dX5_drop_1 : decode cX5_drop 1 = .ok (.getfield 19, 3) := by decide +kernel
theorem dX5_drop_4 : decode cX5_drop 4 = .ok (.getfield 99, 3) := by decide +kernel
theorem dX5_drop_7 : decode cX5_drop 7 = .ok (.ifCond .ne 8, 3) := by decide +kernel
theorem dX5_drop_10 : decode cX5_drop 10 = .ok (.bipush (-2), 2) := by decide +kernel
theorem dX5_drop_12 : decode cX5_drop 12 = .ok (.goto 10, 3) := by decide +kernel
theorem dX5_drop_15 : decode cX5_drop 15 = .ok (.aload_n 0, 1) := by decide +kernel
theorem dX5_drop_16 : decode cX5_drop 16 = .ok (.getfield 19, 3) := by decide +kernel
theorem dX5_drop_19 : decode cX5_drop 19 = .ok (.invokevirtual 103, 3) := by decide +kernel
theorem dX5_drop_22 : decode cX5_drop 22 = .ok (.ireturn, 1) := by decide +kernel
set_option maxRecDepth 20000 in
theorem ggX5_drain_X2_numbered : GoodIn wsX5_drain wsX2_numbered := goodIn_r _ [8, 9, 10, 57, 58] (by decide +kernel) (by decide +kernel)
set_option maxRecDepth 20000 in
theorem gX5_drain_X2_numbered : GoodIn wsX5_drain (wsV RX5 91 RX2 yX2_numbered wsX2_numbered) := goodIn_app (goodIn_of _ (by decide +kernel)) ggX5_drain_X2_numbered
set_option maxRecDepth 20000 in
theorem ggX5_drain_X5_isTries : GoodIn wsX5_drain wsX5_isTries := goodIn_r _ [14, 15, 16, 13, 17] (by decide +kernel) (by decide +kernel)
set_option maxRecDepth 20000 in
theorem gX5_drain_X5_isTries : GoodIn wsX5_drain (va_wsS RX5 75 yX5_isTries wsX5_isTries) := goodIn_app (goodIn_of _ (by decide +kernel)) ggX5_drain_X5_isTries
set_option maxRecDepth 20000 in
theorem ggX5_drain_X3_traceOfOneAsk : GoodIn wsX5_drain wsX3_traceOfOneAsk := goodIn_r _ [22, 23, 44, 45, 46, 47, 48, 49, 50] (by decide +kernel) (by decide +kernel)
set_option maxRecDepth 20000 in
theorem gX5_drain_X3_traceOfOneAsk : GoodIn wsX5_drain (wsV RX5 110 RX3 yX3_traceOfOneAsk wsX3_traceOfOneAsk) := goodIn_app (goodIn_of _ (by decide +kernel)) ggX5_drain_X3_traceOfOneAsk
set_option maxRecDepth 20000 in
theorem ggX5_drain_X3_drainBy : GoodIn wsX5_drain wsX3_drainBy := goodIn_r _ [27, 28, 29, 23, 30, 31, 32, 33, 34, 35, 36, 37, 38, 44, 45, 46, 47, 48, 49, 50] (by decide +kernel) (by decide +kernel)
set_option maxRecDepth 20000 in
theorem gX5_drain_X3_drainBy : GoodIn wsX5_drain (wsV RX5 116 RX3 yX3_drainBy wsX3_drainBy) := goodIn_app (goodIn_of _ (by decide +kernel)) ggX5_drain_X3_drainBy
theorem dX5_drain_0 : decode cX5_drain 0 = .ok (.aload_n 0, 1) := by decide +kernel
theorem dX5_drain_1 : decode cX5_drain 1 = .ok (.getfield 19, 3) := by decide +kernel
theorem dX5_drain_4 : decode cX5_drain 4 = .ok (.iload_n 1, 1) := by decide +kernel
theorem dX5_drain_5 : decode cX5_drain 5 = .ok (.invokevirtual 91, 3) := by decide +kernel
theorem dX5_drain_8 : decode cX5_drain 8 = .ok (.astore_n 3, 1) := by decide +kernel
theorem dX5_drain_9 : decode cX5_drain 9 = .ok (.aload_n 3, 1) := by decide +kernel
theorem dX5_drain_10 : decode cX5_drain 10 = .ok (.ifnull 18, 3) := by decide +kernel
theorem dX5_drain_13 : decode cX5_drain 13 = .ok (.iload_n 2, 1) := by decide +kernel
theorem dX5_drain_14 : decode cX5_drain 14 = .ok (.invokestatic 75, 3) := by decide +kernel
theorem dX5_drain_17 : decode cX5_drain 17 = .ok (.ifCond .eq 11, 3) := by decide +kernel
theorem dX5_drain_20 : decode cX5_drain 20 = .ok (.iload_n 2, 1) := by decide +kernel
theorem dX5_drain_21 : decode cX5_drain 21 = .ok (.aload_n 3, 1) := by decide +kernel
theorem dX5_drain_22 : decode cX5_drain 22 = .ok (.getfield 107, 3) := by decide +kernel
theorem dX5_drain_25 : decode cX5_drain 25 = .ok (.if_icmp .le 5, 3) := by decide +kernel
theorem dX5_drain_28 : decode cX5_drain 28 = .ok (.iconst (-1), 1) := by decide +kernel
theorem dX5_drain_29 : decode cX5_drain 29 = .ok (.ireturn, 1) := by decide +kernel
theorem dX5_drain_30 : decode cX5_drain 30 = .ok (.aload_n 0, 1) := by decide +kernel
theorem dX5_drain_31 : decode cX5_drain 31 = .ok (.dup, 1) := by decide +kernel
theorem dX5_drain_32 : decode cX5_drain 32 = .ok (.getfield 39, 3) := by decide +kernel
theorem dX5_drain_35 : decode cX5_drain 35 = .ok (.aload_n 3, 1) := by decide +kernel
theorem dX5_drain_36 : decode cX5_drain 36 = .ok (.invokevirtual 110, 3) := by decide +kernel
theorem dX5_drain_39 : decode cX5_drain 39 = .ok (.i2l, 1) := by decide +kernel
theorem dX5_drain_40 : decode cX5_drain 40 = .ok (.ladd, 1) := by decide +kernel
theorem dX5_drain_41 : decode cX5_drain 41 = .ok (.putfield 39, 3) := by decide +kernel
theorem dX5_drain_44 : decode cX5_drain 44 = .ok (.aload_n 3, 1) := by decide +kernel
theorem dX5_drain_45 : decode cX5_drain 45 = .ok (.iload_n 2, 1) := by decide +kernel
theorem dX5_drain_46 : decode cX5_drain 46 = .ok (.aload_n 0, 1) := by decide +kernel
theorem dX5_drain_47 : decode cX5_drain 47 = .ok (.getfield 10, 3) := by decide +kernel
theorem dX5_drain_50 : decode cX5_drain 50 = .ok (.getfield 113, 3) := by decide +kernel
theorem dX5_drain_53 : decode cX5_drain 53 = .ok (.invokevirtual 116, 3) := by decide +kernel
theorem dX5_drain_56 : decode cX5_drain 56 = .ok (.ireturn, 1) := by decide +kernel
set_option maxRecDepth 20000 in
theorem ggX5_life_X5_isTries : GoodIn wsX5_life wsX5_isTries := goodIn_r _ [6, 7, 8, 5, 9] (by decide +kernel) (by decide +kernel)
set_option maxRecDepth 20000 in
theorem gX5_life_X5_isTries : GoodIn wsX5_life (va_wsS RX5 75 yX5_isTries wsX5_isTries) := goodIn_app (goodIn_of _ (by decide +kernel)) ggX5_life_X5_isTries
set_option maxRecDepth 20000 in
theorem ggX5_life_X2_setOfOn : GoodIn wsX5_life wsX2_setOfOn := goodIn_r _ [14, 15, 16, 17, 18, 13, 19, 20, 81, 82, 83, 84, 85, 86, 87, 88, 89] (by decide +kernel) (by decide +kernel)
set_option maxRecDepth 20000 in
theorem gX5_life_X2_setOfOn : GoodIn wsX5_life (wsV RX5 120 RX2 yX2_setOfOn wsX2_setOfOn) := goodIn_app (goodIn_of _ (by decide +kernel)) ggX5_life_X2_setOfOn
set_option maxRecDepth 20000 in
theorem ggX5_life_X2_loadOf : GoodIn wsX5_life wsX2_loadOf := goodIn_r _ [24, 15, 25, 26, 27, 13, 28, 16, 17, 18, 19, 20, 29, 30, 31, 32, 33, 34, 35, 36, 37, 38, 39, 40, 41, 42, 43, 44, 45, 81, 82, 83, 84, 85, 86, 87, 88, 89] (by decide +kernel) (by decide +kernel)
set_option maxRecDepth 20000 in
theorem gX5_life_X2_loadOf : GoodIn wsX5_life (wsV RX5 123 RX2 yX2_loadOf wsX2_loadOf) := goodIn_app (goodIn_of _ (by decide +kernel)) ggX5_life_X2_loadOf
set_option maxRecDepth 20000 in
theorem ggX5_life_X1_daysLasted : GoodIn wsX5_life wsX1_daysLasted := goodIn_r _ [50, 51, 52, 53, 54, 49, 55, 56, 57, 58, 59, 60, 61, 62, 63, 64, 5, 65, 66, 67, 68, 69, 75, 76, 77, 78, 79, 80] (by decide +kernel) (by decide +kernel)
set_option maxRecDepth 20000 in
theorem gX5_life_X1_daysLasted : GoodIn wsX5_life (wsV RX5 127 RX1 yX1_daysLasted wsX1_daysLasted) := goodIn_app (goodIn_of _ (by decide +kernel)) ggX5_life_X1_daysLasted
theorem dX5_life_0 : decode cX5_life 0 = .ok (.iload_n 1, 1) := by decide +kernel
theorem dX5_life_1 : decode cX5_life 1 = .ok (.invokestatic 75, 3) := by decide +kernel
theorem dX5_life_4 : decode cX5_life 4 = .ok (.ifCond .eq 35, 3) := by decide +kernel
theorem dX5_life_7 : decode cX5_life 7 = .ok (.aload_n 0, 1) := by decide +kernel
theorem dX5_life_8 : decode cX5_life 8 = .ok (.getfield 10, 3) := by decide +kernel
theorem dX5_life_11 : decode cX5_life 11 = .ok (.aload_n 0, 1) := by decide +kernel
theorem dX5_life_12 : decode cX5_life 12 = .ok (.getfield 19, 3) := by decide +kernel
theorem dX5_life_15 : decode cX5_life 15 = .ok (.aload_n 0, 1) := by decide +kernel
theorem dX5_life_16 : decode cX5_life 16 = .ok (.getfield 19, 3) := by decide +kernel
theorem dX5_life_19 : decode cX5_life 19 = .ok (.invokevirtual 120, 3) := by decide +kernel
theorem dX5_life_22 : decode cX5_life 22 = .ok (.iload_n 1, 1) := by decide +kernel
theorem dX5_life_23 : decode cX5_life 23 = .ok (.aload_n 0, 1) := by decide +kernel
theorem dX5_life_24 : decode cX5_life 24 = .ok (.getfield 10, 3) := by decide +kernel
theorem dX5_life_27 : decode cX5_life 27 = .ok (.getfield 113, 3) := by decide +kernel
theorem dX5_life_30 : decode cX5_life 30 = .ok (.invokevirtual 123, 3) := by decide +kernel
theorem dX5_life_33 : decode cX5_life 33 = .ok (.invokevirtual 127, 3) := by decide +kernel
theorem dX5_life_36 : decode cX5_life 36 = .ok (.goto 4, 3) := by decide +kernel
theorem dX5_life_39 : decode cX5_life 39 = .ok (.iconst (-1), 1) := by decide +kernel
theorem dX5_life_40 : decode cX5_life 40 = .ok (.ireturn, 1) := by decide +kernel
set_option maxRecDepth 20000 in
theorem ggX5_charge_X5_isDay : GoodIn wsX5_charge wsX5_isDay := goodIn_r _ [10, 11, 12, 9, 13] (by decide +kernel) (by decide +kernel)
set_option maxRecDepth 20000 in
theorem gX5_charge_X5_isDay : GoodIn wsX5_charge (va_wsS RX5 68 yX5_isDay wsX5_isDay) := goodIn_app (goodIn_of _ (by decide +kernel)) ggX5_charge_X5_isDay
set_option maxRecDepth 20000 in
theorem ggX5_charge_X5_isTries : GoodIn wsX5_charge wsX5_isTries := goodIn_r _ [16, 11, 12, 9, 13] (by decide +kernel) (by decide +kernel)
set_option maxRecDepth 20000 in
theorem gX5_charge_X5_isTries : GoodIn wsX5_charge (va_wsS RX5 75 yX5_isTries wsX5_isTries) := goodIn_app (goodIn_of _ (by decide +kernel)) ggX5_charge_X5_isTries
set_option maxRecDepth 20000 in
theorem ggX5_charge_X2_setOfOn : GoodIn wsX5_charge wsX2_setOfOn := goodIn_r _ [21, 22, 23, 24, 25, 20, 26, 27, 88, 89, 90, 91, 92, 93, 94, 95, 96] (by decide +kernel) (by decide +kernel)
set_option maxRecDepth 20000 in
theorem gX5_charge_X2_setOfOn : GoodIn wsX5_charge (wsV RX5 120 RX2 yX2_setOfOn wsX2_setOfOn) := goodIn_app (goodIn_of _ (by decide +kernel)) ggX5_charge_X2_setOfOn
set_option maxRecDepth 20000 in
theorem ggX5_charge_X2_loadOf : GoodIn wsX5_charge wsX2_loadOf := goodIn_r _ [31, 22, 32, 33, 34, 20, 35, 23, 24, 25, 26, 27, 36, 37, 38, 39, 40, 41, 42, 43, 44, 45, 4, 5, 6, 46, 47, 48, 49, 88, 89, 90, 91, 92, 93, 94, 95, 96] (by decide +kernel) (by decide +kernel)
set_option maxRecDepth 20000 in
theorem gX5_charge_X2_loadOf : GoodIn wsX5_charge (wsV RX5 123 RX2 yX2_loadOf wsX2_loadOf) := goodIn_app (goodIn_of _ (by decide +kernel)) ggX5_charge_X2_loadOf
set_option maxRecDepth 20000 in
theorem ggX5_charge_X1_chargeAhead : GoodIn wsX5_charge wsX1_chargeAhead := goodIn_r _ [54, 55, 56, 57, 53, 58, 59, 60, 61, 62, 63, 64, 65, 66, 67, 68, 69, 70, 71, 9, 72, 73, 74, 75, 76, 82, 83, 84, 85, 86, 87] (by decide +kernel) (by decide +kernel)
set_option maxRecDepth 20000 in
theorem gX5_charge_X1_chargeAhead : GoodIn wsX5_charge (wsV RX5 133 RX1 yX1_chargeAhead wsX1_chargeAhead) := goodIn_app (goodIn_of _ (by decide +kernel)) ggX5_charge_X1_chargeAhead
theorem dX5_charge_0 : decode cX5_charge 0 = .ok (.iload_n 1, 1) := by decide +kernel
theorem dX5_charge_1 : decode cX5_charge 1 = .ok (.invokestatic 68, 3) := by decide +kernel
theorem dX5_charge_4 : decode cX5_charge 4 = .ok (.ifCond .eq 10, 3) := by decide +kernel
theorem dX5_charge_7 : decode cX5_charge 7 = .ok (.iload_n 2, 1) := by decide +kernel
theorem dX5_charge_8 : decode cX5_charge 8 = .ok (.invokestatic 75, 3) := by decide +kernel
theorem dX5_charge_11 : decode cX5_charge 11 = .ok (.ifCond .ne 5, 3) := by decide +kernel
theorem dX5_charge_14 : decode cX5_charge 14 = .ok (.iconst (-1), 1) := by decide +kernel
theorem dX5_charge_15 : decode cX5_charge 15 = .ok (.ireturn, 1) := by decide +kernel
theorem dX5_charge_16 : decode cX5_charge 16 = .ok (.aload_n 0, 1) := by decide +kernel
theorem dX5_charge_17 : decode cX5_charge 17 = .ok (.getfield 19, 3) := by decide +kernel
theorem dX5_charge_20 : decode cX5_charge 20 = .ok (.aload_n 0, 1) := by decide +kernel
theorem dX5_charge_21 : decode cX5_charge 21 = .ok (.getfield 19, 3) := by decide +kernel
theorem dX5_charge_24 : decode cX5_charge 24 = .ok (.invokevirtual 120, 3) := by decide +kernel
theorem dX5_charge_27 : decode cX5_charge 27 = .ok (.iload_n 2, 1) := by decide +kernel
theorem dX5_charge_28 : decode cX5_charge 28 = .ok (.aload_n 0, 1) := by decide +kernel
theorem dX5_charge_29 : decode cX5_charge 29 = .ok (.getfield 10, 3) := by decide +kernel
theorem dX5_charge_32 : decode cX5_charge 32 = .ok (.getfield 113, 3) := by decide +kernel
theorem dX5_charge_35 : decode cX5_charge 35 = .ok (.invokevirtual 123, 3) := by decide +kernel
theorem dX5_charge_38 : decode cX5_charge 38 = .ok (.istore_n 3, 1) := by decide +kernel
theorem dX5_charge_39 : decode cX5_charge 39 = .ok (.iconst 0, 1) := by decide +kernel
theorem dX5_charge_40 : decode cX5_charge 40 = .ok (.aload_n 0, 1) := by decide +kernel
theorem dX5_charge_41 : decode cX5_charge 41 = .ok (.getfield 10, 3) := by decide +kernel
theorem dX5_charge_44 : decode cX5_charge 44 = .ok (.iload_n 1, 1) := by decide +kernel
theorem dX5_charge_45 : decode cX5_charge 45 = .ok (.iconst 1, 1) := by decide +kernel
theorem dX5_charge_46 : decode cX5_charge 46 = .ok (.iadd, 1) := by decide +kernel
theorem dX5_charge_47 : decode cX5_charge 47 = .ok (.aload_n 0, 1) := by decide +kernel
theorem dX5_charge_48 : decode cX5_charge 48 = .ok (.getfield 10, 3) := by decide +kernel
theorem dX5_charge_51 : decode cX5_charge 51 = .ok (.getfield 130, 3) := by decide +kernel
theorem dX5_charge_54 : decode cX5_charge 54 = .ok (.iload_n 3, 1) := by decide +kernel
theorem dX5_charge_55 : decode cX5_charge 55 = .ok (.invokevirtual 133, 3) := by decide +kernel
theorem dX5_charge_58 : decode cX5_charge 58 = .ok (.invokestatic 136, 3) := by decide +kernel
theorem dX5_charge_61 : decode cX5_charge 61 = .ok (.ireturn, 1) := by decide +kernel
set_option maxRecDepth 20000 in
theorem ggX5_price_X2_numbered : GoodIn wsX5_price wsX2_numbered := goodIn_r _ [6, 7, 8, 74, 75] (by decide +kernel) (by decide +kernel)
set_option maxRecDepth 20000 in
theorem gX5_price_X2_numbered : GoodIn wsX5_price (wsV RX5 91 RX2 yX2_numbered wsX2_numbered) := goodIn_app (goodIn_of _ (by decide +kernel)) ggX5_price_X2_numbered
set_option maxRecDepth 20000 in
theorem ggX5_price_X2_setOfOn : GoodIn wsX5_price wsX2_setOfOn := goodIn_r _ [12, 7, 13, 3, 4, 5, 6, 8, 74, 75, 76, 77, 78, 79, 80, 81, 82] (by decide +kernel) (by decide +kernel)
set_option maxRecDepth 20000 in
theorem gX5_price_X2_setOfOn : GoodIn wsX5_price (wsV RX5 120 RX2 yX2_setOfOn wsX2_setOfOn) := goodIn_app (goodIn_of _ (by decide +kernel)) ggX5_price_X2_setOfOn
set_option maxRecDepth 20000 in
theorem ggX5_price_X5_sureBy : GoodIn wsX5_price wsX5_sureBy := goodIn_r _ [18, 19, 1, 20, 21, 22, 5, 23, 7, 24, 25, 26, 27, 13, 3, 4, 6, 8, 28, 29, 30, 31, 32, 33, 34, 35, 36, 37, 38, 39, 40, 41, 42, 43, 44, 45, 46, 47, 48, 49, 50, 51, 52, 53, 54, 55, 56, 57, 58, 59, 60, 61, 62, 63, 17, 64, 65, 66, 67, 68, 69, 70, 71, 72, 73, 83, 84, 85, 86, 87, 88, 74, 75, 76, 77, 78, 79, 80, 81, 82] (by decide +kernel) (by decide +kernel)
set_option maxRecDepth 20000 in
theorem gX5_price_X5_sureBy : GoodIn wsX5_price (wsV RX5 141 RX5 yX5_sureBy wsX5_sureBy) := goodIn_app (goodIn_of _ (by decide +kernel)) ggX5_price_X5_sureBy
theorem dX5_price_0 : decode cX5_price 0 = .ok (.aload_n 0, 1) := by decide +kernel
theorem dX5_price_1 : decode cX5_price 1 = .ok (.getfield 19, 3) := by decide +kernel
theorem dX5_price_4 : decode cX5_price 4 = .ok (.iload_n 1, 1) := by decide +kernel
theorem dX5_price_5 : decode cX5_price 5 = .ok (.invokevirtual 91, 3) := by decide +kernel
theorem dX5_price_8 : decode cX5_price 8 = .ok (.ifnonnull 5, 3) := by decide +kernel
theorem dX5_price_11 : decode cX5_price 11 = .ok (.iconst (-1), 1) := by decide +kernel
theorem dX5_price_12 : decode cX5_price 12 = .ok (.ireturn, 1) := by decide +kernel
theorem dX5_price_13 : decode cX5_price 13 = .ok (.iconst 1, 1) := by decide +kernel
theorem dX5_price_14 : decode cX5_price 14 = .ok (.iload_n 1, 1) := by decide +kernel
theorem dX5_price_15 : decode cX5_price 15 = .ok (.ishl, 1) := by decide +kernel
theorem dX5_price_16 : decode cX5_price 16 = .ok (.istore_n 2, 1) := by decide +kernel
theorem dX5_price_17 : decode cX5_price 17 = .ok (.aload_n 0, 1) := by decide +kernel
theorem dX5_price_18 : decode cX5_price 18 = .ok (.getfield 19, 3) := by decide +kernel
theorem dX5_price_21 : decode cX5_price 21 = .ok (.invokevirtual 120, 3) := by decide +kernel
theorem dX5_price_24 : decode cX5_price 24 = .ok (.istore_n 3, 1) := by decide +kernel
theorem dX5_price_25 : decode cX5_price 25 = .ok (.aload_n 0, 1) := by decide +kernel
theorem dX5_price_26 : decode cX5_price 26 = .ok (.iload_n 3, 1) := by decide +kernel
theorem dX5_price_27 : decode cX5_price 27 = .ok (.iload_n 2, 1) := by decide +kernel
theorem dX5_price_28 : decode cX5_price 28 = .ok (.iconst (-1), 1) := by decide +kernel
theorem dX5_price_29 : decode cX5_price 29 = .ok (.ixor, 1) := by decide +kernel
theorem dX5_price_30 : decode cX5_price 30 = .ok (.iand, 1) := by decide +kernel
theorem dX5_price_31 : decode cX5_price 31 = .ok (.invokevirtual 141, 3) := by decide +kernel
theorem dX5_price_34 : decode cX5_price 34 = .ok (.aload_n 0, 1) := by decide +kernel
theorem dX5_price_35 : decode cX5_price 35 = .ok (.iload_n 3, 1) := by decide +kernel
theorem dX5_price_36 : decode cX5_price 36 = .ok (.iload_n 2, 1) := by decide +kernel
theorem dX5_price_37 : decode cX5_price 37 = .ok (.ior, 1) := by decide +kernel
theorem dX5_price_38 : decode cX5_price 38 = .ok (.invokevirtual 141, 3) := by decide +kernel
theorem dX5_price_41 : decode cX5_price 41 = .ok (.isub, 1) := by decide +kernel
theorem dX5_price_42 : decode cX5_price 42 = .ok (.ireturn, 1) := by decide +kernel
set_option maxRecDepth 20000 in
theorem ggX5_plan_X5_within : GoodIn wsX5_plan wsX5_within := goodIn_r _ [5] (by decide +kernel) (by decide +kernel)
set_option maxRecDepth 20000 in
theorem gX5_plan_X5_within : GoodIn wsX5_plan (va_wsS RX5 43 yX5_within wsX5_within) := goodIn_app (goodIn_of _ (by decide +kernel)) ggX5_plan_X5_within
set_option maxRecDepth 20000 in
theorem ggX5_plan_X5_worthiestSet : GoodIn wsX5_plan wsX5_worthiestSet := goodIn_r _ [9, 1, 10, 11, 12, 13, 14, 15, 16, 17, 18, 19, 20, 21, 22, 23, 24, 25, 26, 27, 4, 28, 29, 30, 31, 32, 33, 34, 35, 36, 37, 38, 39, 40, 41, 42, 43, 44, 45, 46, 47, 48, 49, 50, 51, 52, 53, 54, 55, 56, 57, 58, 59, 60, 61, 62, 63, 64, 65, 66, 67, 68, 69, 70, 71, 72, 73, 74, 75, 76, 77, 78, 79, 80, 81, 82, 83, 84, 85, 86, 87, 88, 89, 90, 91, 92, 93, 94] (by decide +kernel) (by decide +kernel)
set_option maxRecDepth 20000 in
theorem gX5_plan_X5_worthiestSet : GoodIn wsX5_plan (wsV RX5 144 RX5 yX5_worthiestSet wsX5_worthiestSet) := goodIn_app (goodIn_of _ (by decide +kernel)) ggX5_plan_X5_worthiestSet
set_option maxRecDepth 20000 in
theorem ggX5_plan_X2_worthOf : GoodIn wsX5_plan wsX2_worthOf := goodIn_r _ [14, 15, 16, 17, 18, 13, 19, 20, 21, 22, 23, 24, 80, 81, 82, 83, 84, 85, 86, 87, 88] (by decide +kernel) (by decide +kernel)
set_option maxRecDepth 20000 in
theorem gX5_plan_X2_worthOf : GoodIn wsX5_plan (wsV RX5 147 RX2 yX2_worthOf wsX2_worthOf) := goodIn_app (goodIn_of _ (by decide +kernel)) ggX5_plan_X2_worthOf
set_option maxRecDepth 20000 in
theorem ggX5_plan_X5_sureBy : GoodIn wsX5_plan wsX5_sureBy := goodIn_r _ [28, 29, 1, 30, 31, 32, 13, 33, 15, 16, 17, 18, 19, 20, 21, 22, 23, 24, 34, 35, 36, 37, 38, 39, 40, 41, 42, 43, 44, 45, 46, 47, 48, 49, 50, 51, 52, 53, 54, 55, 56, 57, 58, 59, 60, 61, 62, 63, 64, 65, 66, 67, 68, 69, 4, 70, 71, 72, 73, 74, 75, 76, 77, 78, 79, 89, 90, 91, 92, 93, 94, 80, 81, 82, 83, 84, 85, 86, 87, 88] (by decide +kernel) (by decide +kernel)
set_option maxRecDepth 20000 in
theorem gX5_plan_X5_sureBy : GoodIn wsX5_plan (wsV RX5 141 RX5 yX5_sureBy wsX5_sureBy) := goodIn_app (goodIn_of _ (by decide +kernel)) ggX5_plan_X5_sureBy
theorem dX5_plan_0 : decode cX5_plan 0 = .ok (.iload_n 1, 1) := by decide +kernel
theorem dX5_plan_1 : decode cX5_plan 1 = .ok (.iconst 1, 1) := by decide +kernel
theorem dX5_plan_2 : decode cX5_plan 2 = .ok (.sipush 400, 3) := by decide +kernel
theorem dX5_plan_5 : decode cX5_plan 5 = .ok (.invokestatic 43, 3) := by decide +kernel
theorem dX5_plan_8 : decode cX5_plan 8 = .ok (.ifCond .eq 12, 3) := by decide +kernel
theorem dX5_plan_11 : decode cX5_plan 11 = .ok (.iload_n 2, 1) := by decide +kernel
theorem dX5_plan_12 : decode cX5_plan 12 = .ok (.iconst 0, 1) := by decide +kernel
theorem dX5_plan_13 : decode cX5_plan 13 = .ok (.iconst 2, 1) := by decide +kernel
theorem dX5_plan_14 : decode cX5_plan 14 = .ok (.invokestatic 43, 3) := by decide +kernel
theorem dX5_plan_17 : decode cX5_plan 17 = .ok (.ifCond .ne 5, 3) := by decide +kernel
theorem dX5_plan_20 : decode cX5_plan 20 = .ok (.iconst (-1), 1) := by decide +kernel
theorem dX5_plan_21 : decode cX5_plan 21 = .ok (.ireturn, 1) := by decide +kernel
theorem dX5_plan_22 : decode cX5_plan 22 = .ok (.aload_n 0, 1) := by decide +kernel
theorem dX5_plan_23 : decode cX5_plan 23 = .ok (.iload_n 1, 1) := by decide +kernel
theorem dX5_plan_24 : decode cX5_plan 24 = .ok (.invokevirtual 144, 3) := by decide +kernel
theorem dX5_plan_27 : decode cX5_plan 27 = .ok (.istore_n 3, 1) := by decide +kernel
theorem dX5_plan_28 : decode cX5_plan 28 = .ok (.iload_n 3, 1) := by decide +kernel
theorem dX5_plan_29 : decode cX5_plan 29 = .ok (.bipush (-9), 2) := by decide +kernel
theorem dX5_plan_31 : decode cX5_plan 31 = .ok (.if_icmp .ne 6, 3) := by decide +kernel
theorem dX5_plan_34 : decode cX5_plan 34 = .ok (.bipush (-9), 2) := by decide +kernel
theorem dX5_plan_36 : decode cX5_plan 36 = .ok (.ireturn, 1) := by decide +kernel
theorem dX5_plan_37 : decode cX5_plan 37 = .ok (.iload_n 2, 1) := by decide +kernel
theorem dX5_plan_38 : decode cX5_plan 38 = .ok (.lookupswitch 37 #[(0, 26), (1, 28)], 26) := by decide +kernel
theorem dX5_plan_64 : decode cX5_plan 64 = .ok (.iload_n 3, 1) := by decide +kernel
theorem dX5_plan_65 : decode cX5_plan 65 = .ok (.ireturn, 1) := by decide +kernel
theorem dX5_plan_66 : decode cX5_plan 66 = .ok (.aload_n 0, 1) := by decide +kernel
theorem dX5_plan_67 : decode cX5_plan 67 = .ok (.getfield 19, 3) := by decide +kernel
theorem dX5_plan_70 : decode cX5_plan 70 = .ok (.iload_n 3, 1) := by decide +kernel
theorem dX5_plan_71 : decode cX5_plan 71 = .ok (.invokevirtual 147, 3) := by decide +kernel
theorem dX5_plan_74 : decode cX5_plan 74 = .ok (.ireturn, 1) := by decide +kernel
theorem dX5_plan_75 : decode cX5_plan 75 = .ok (.aload_n 0, 1) := by decide +kernel
theorem dX5_plan_76 : decode cX5_plan 76 = .ok (.iload_n 3, 1) := by decide +kernel
theorem dX5_plan_77 : decode cX5_plan 77 = .ok (.invokevirtual 141, 3) := by decide +kernel
theorem dX5_plan_80 : decode cX5_plan 80 = .ok (.ireturn, 1) := by decide +kernel
set_option maxRecDepth 20000 in
theorem ggX5_sign_X5_isDay : GoodIn wsX5_sign wsX5_isDay := goodIn_r _ [5, 6, 7, 4, 8] (by decide +kernel) (by decide +kernel)
set_option maxRecDepth 20000 in
theorem gX5_sign_X5_isDay : GoodIn wsX5_sign (va_wsS RX5 68 yX5_isDay wsX5_isDay) := goodIn_app (goodIn_of _ (by decide +kernel)) ggX5_sign_X5_isDay
set_option maxRecDepth 20000 in
theorem ggX5_sign_X5_within : GoodIn wsX5_sign wsX5_within := goodIn_r _ [8] (by decide +kernel) (by decide +kernel)
set_option maxRecDepth 20000 in
theorem gX5_sign_X5_within : GoodIn wsX5_sign (va_wsS RX5 43 yX5_within wsX5_within) := goodIn_app (goodIn_of _ (by decide +kernel)) ggX5_sign_X5_within
set_option maxRecDepth 20000 in
theorem ggX5_sign_X4_isFull : GoodIn wsX5_sign wsX4_isFull := goodIn_r _ [13, 14, 39, 40, 41, 42] (by decide +kernel) (by decide +kernel)
set_option maxRecDepth 20000 in
theorem gX5_sign_X4_isFull : GoodIn wsX5_sign (wsV RX5 150 RX4 yX4_isFull wsX4_isFull) := goodIn_app (goodIn_of _ (by decide +kernel)) ggX5_sign_X4_isFull
set_option maxRecDepth 20000 in
theorem ggX5_sign_X4_add : GoodIn wsX5_sign wsX4_add := goodIn_r _ [18, 19, 14, 20, 21, 4, 22, 23, 24, 25, 12, 26, 27, 28, 29, 30, 31, 32, 33, 39, 40, 41, 42] (by decide +kernel) (by decide +kernel)
set_option maxRecDepth 20000 in
theorem gX5_sign_X4_add : GoodIn wsX5_sign (wsV RX5 151 RX4 yX4_add wsX4_add) := goodIn_app (goodIn_of _ (by decide +kernel)) ggX5_sign_X4_add
theorem dX5_sign_0 : decode cX5_sign 0 = .ok (.iload_n 1, 1) := by decide +kernel
theorem dX5_sign_1 : decode cX5_sign 1 = .ok (.invokestatic 68, 3) := by decide +kernel
theorem dX5_sign_4 : decode cX5_sign 4 = .ok (.ifCond .eq 13, 3) := by decide +kernel
theorem dX5_sign_7 : decode cX5_sign 7 = .ok (.iload_n 2, 1) := by decide +kernel
theorem dX5_sign_8 : decode cX5_sign 8 = .ok (.iconst 0, 1) := by decide +kernel
theorem dX5_sign_9 : decode cX5_sign 9 = .ok (.bipush 9, 2) := by decide +kernel
theorem dX5_sign_11 : decode cX5_sign 11 = .ok (.invokestatic 43, 3) := by decide +kernel
theorem dX5_sign_14 : decode cX5_sign 14 = .ok (.ifCond .ne 5, 3) := by decide +kernel
theorem dX5_sign_17 : decode cX5_sign 17 = .ok (.iconst (-1), 1) := by decide +kernel
theorem dX5_sign_18 : decode cX5_sign 18 = .ok (.ireturn, 1) := by decide +kernel
theorem dX5_sign_19 : decode cX5_sign 19 = .ok (.aload_n 0, 1) := by decide +kernel
theorem dX5_sign_20 : decode cX5_sign 20 = .ok (.getfield 26, 3) := by decide +kernel
theorem dX5_sign_23 : decode cX5_sign 23 = .ok (.invokevirtual 150, 3) := by decide +kernel
theorem dX5_sign_26 : decode cX5_sign 26 = .ok (.ifCond .eq 8, 3) := by decide +kernel
theorem dX5_sign_29 : decode cX5_sign 29 = .ok (.bipush (-3), 2) := by decide +kernel
theorem dX5_sign_31 : decode cX5_sign 31 = .ok (.goto 12, 3) := by decide +kernel
theorem dX5_sign_34 : decode cX5_sign 34 = .ok (.aload_n 0, 1) := by decide +kernel
theorem dX5_sign_35 : decode cX5_sign 35 = .ok (.getfield 26, 3) := by decide +kernel
theorem dX5_sign_38 : decode cX5_sign 38 = .ok (.iload_n 1, 1) := by decide +kernel
theorem dX5_sign_39 : decode cX5_sign 39 = .ok (.iload_n 2, 1) := by decide +kernel
theorem dX5_sign_40 : decode cX5_sign 40 = .ok (.invokevirtual 151, 3) := by decide +kernel
theorem dX5_sign_43 : decode cX5_sign 43 = .ok (.ireturn, 1) := by decide +kernel
set_option maxRecDepth 20000 in
theorem ggX5_forget_X4_removeLatest : GoodIn wsX5_forget wsX4_removeLatest := goodIn_r _ [6, 7, 8, 9, 10, 5, 11, 12, 13, 14, 15, 16, 17, 18, 19, 20, 21, 22, 28, 29, 30, 31] (by decide +kernel) (by decide +kernel)
set_option maxRecDepth 20000 in
theorem gX5_forget_X4_removeLatest : GoodIn wsX5_forget (wsV RX5 154 RX4 yX4_removeLatest wsX4_removeLatest) := goodIn_app (goodIn_of _ (by decide +kernel)) ggX5_forget_X4_removeLatest
theorem dX5_forget_0 : decode cX5_forget 0 = .ok (.aload_n 0, 1) := by decide +kernel
theorem dX5_forget_1 : decode cX5_forget 1 = .ok (.getfield 26, 3) := by decide +kernel
theorem dX5_forget_4 : decode cX5_forget 4 = .ok (.getfield 153, 3) := by decide +kernel
theorem dX5_forget_7 : decode cX5_forget 7 = .ok (.ifCond .ne 8, 3) := by decide +kernel
theorem dX5_forget_10 : decode cX5_forget 10 = .ok (.bipush (-2), 2) := by decide +kernel
theorem dX5_forget_12 : decode cX5_forget 12 = .ok (.goto 10, 3) := by decide +kernel
theorem dX5_forget_15 : decode cX5_forget 15 = .ok (.aload_n 0, 1) := by decide +kernel
theorem dX5_forget_16 : decode cX5_forget 16 = .ok (.getfield 26, 3) := by decide +kernel
theorem dX5_forget_19 : decode cX5_forget 19 = .ok (.invokevirtual 154, 3) := by decide +kernel
theorem dX5_forget_22 : decode cX5_forget 22 = .ok (.ireturn, 1) := by decide +kernel
set_option maxRecDepth 20000 in
theorem ggX5_level_X0_isNumber : GoodIn wsX5_level wsX0_isNumber := goodIn_r _ [5, 6, 7, 8] (by decide +kernel) (by decide +kernel)
set_option maxRecDepth 20000 in
theorem gX5_level_X0_isNumber : GoodIn wsX5_level (va_wsS RX5 155 yX0_isNumber wsX0_isNumber) := goodIn_app (goodIn_of _ (by decide +kernel)) ggX5_level_X0_isNumber
set_option maxRecDepth 20000 in
theorem ggX5_level_X5_isDay : GoodIn wsX5_level wsX5_isDay := goodIn_r _ [11, 12, 6, 7, 8] (by decide +kernel) (by decide +kernel)
set_option maxRecDepth 20000 in
theorem gX5_level_X5_isDay : GoodIn wsX5_level (va_wsS RX5 68 yX5_isDay wsX5_isDay) := goodIn_app (goodIn_of _ (by decide +kernel)) ggX5_level_X5_isDay
set_option maxRecDepth 20000 in
theorem ggX5_level_X0_levelAhead : GoodIn wsX5_level wsX0_levelAhead := goodIn_r _ [16, 17, 18, 19, 20, 4, 21, 22, 23, 24, 25, 26, 27, 28, 29, 30, 31, 32, 33, 34, 35, 36, 37, 38, 39, 40, 41, 42, 43, 44, 45, 46, 47, 48, 49, 50, 51, 52, 53, 54, 55, 56, 57, 58, 59, 60, 61, 62, 63, 64, 65, 66, 67, 68, 69, 70, 71, 72, 73, 74, 75, 76, 77, 78, 79, 80, 81, 82, 83, 84, 85, 86, 87, 7, 88, 89, 90, 91, 92, 93, 94, 95, 96, 97, 103, 104, 105, 106, 107, 108, 109, 110, 111, 112, 113, 114, 115, 116, 117, 118, 119, 120, 121, 122, 123, 124, 125] (by decide +kernel) (by decide +kernel)
set_option maxRecDepth 20000 in
theorem gX5_level_X0_levelAhead : GoodIn wsX5_level (wsV RX5 158 RX0 yX0_levelAhead wsX0_levelAhead) := goodIn_app (goodIn_of _ (by decide +kernel)) ggX5_level_X0_levelAhead
theorem dX5_level_0 : decode cX5_level 0 = .ok (.iload_n 1, 1) := by decide +kernel
theorem dX5_level_1 : decode cX5_level 1 = .ok (.invokestatic 155, 3) := by decide +kernel
theorem dX5_level_4 : decode cX5_level 4 = .ok (.ifCond .eq 22, 3) := by decide +kernel
theorem dX5_level_7 : decode cX5_level 7 = .ok (.iload_n 2, 1) := by decide +kernel
theorem dX5_level_8 : decode cX5_level 8 = .ok (.invokestatic 68, 3) := by decide +kernel
theorem dX5_level_11 : decode cX5_level 11 = .ok (.ifCond .eq 15, 3) := by decide +kernel
theorem dX5_level_14 : decode cX5_level 14 = .ok (.aload_n 0, 1) := by decide +kernel
theorem dX5_level_15 : decode cX5_level 15 = .ok (.getfield 35, 3) := by decide +kernel
theorem dX5_level_18 : decode cX5_level 18 = .ok (.iload_n 1, 1) := by decide +kernel
theorem dX5_level_19 : decode cX5_level 19 = .ok (.iload_n 2, 1) := by decide +kernel
theorem dX5_level_20 : decode cX5_level 20 = .ok (.invokevirtual 158, 3) := by decide +kernel
theorem dX5_level_23 : decode cX5_level 23 = .ok (.goto 4, 3) := by decide +kernel
theorem dX5_level_26 : decode cX5_level 26 = .ok (.iconst (-1), 1) := by decide +kernel
theorem dX5_level_27 : decode cX5_level 27 = .ok (.ireturn, 1) := by decide +kernel
set_option maxRecDepth 20000 in
theorem ggX5_agrees_X0_isNumber : GoodIn wsX5_agrees wsX0_isNumber := goodIn_r _ [5, 6, 7, 8] (by decide +kernel) (by decide +kernel)
set_option maxRecDepth 20000 in
theorem gX5_agrees_X0_isNumber : GoodIn wsX5_agrees (va_wsS RX5 155 yX0_isNumber wsX0_isNumber) := goodIn_app (goodIn_of _ (by decide +kernel)) ggX5_agrees_X0_isNumber
set_option maxRecDepth 20000 in
theorem ggX5_agrees_X0_fitsSigns : GoodIn wsX5_agrees wsX0_fitsSigns := goodIn_r _ [12, 13, 14, 15, 16, 17, 4, 18, 19, 20, 21, 22, 23, 24, 25, 26, 27, 28, 29, 30, 31, 32, 33, 34, 35, 36, 37, 38, 39, 40, 41, 42, 43, 44, 45, 46, 47, 48, 49, 50, 51, 52, 53, 54, 55, 56, 57, 58, 59, 60, 61, 62, 63, 64, 65, 66, 67, 68, 69, 70, 71, 72, 73, 74, 75, 76, 7, 77, 78, 79, 80, 81, 82, 83, 84, 85, 86, 87, 88, 89, 90, 91, 92, 93, 94, 95, 96, 97, 98, 99, 100, 101, 102, 103, 109, 110, 111, 112, 113, 114, 115, 116, 117, 118, 119, 120, 121, 122, 123, 124, 125, 126, 127, 128, 129, 130, 131, 132, 133, 134, 135] (by decide +kernel) (by decide +kernel)
set_option maxRecDepth 20000 in
theorem gX5_agrees_X0_fitsSigns : GoodIn wsX5_agrees (wsV RX5 161 RX0 yX0_fitsSigns wsX0_fitsSigns) := goodIn_app (goodIn_of _ (by decide +kernel)) ggX5_agrees_X0_fitsSigns
theorem dX5_agrees_0 : decode cX5_agrees 0 = .ok (.iload_n 1, 1) := by decide +kernel
theorem dX5_agrees_1 : decode cX5_agrees 1 = .ok (.invokestatic 155, 3) := by decide +kernel
theorem dX5_agrees_4 : decode cX5_agrees 4 = .ok (.ifCond .ne 5, 3) := by decide +kernel
theorem dX5_agrees_7 : decode cX5_agrees 7 = .ok (.iconst (-1), 1) := by decide +kernel
theorem dX5_agrees_8 : decode cX5_agrees 8 = .ok (.ireturn, 1) := by decide +kernel
theorem dX5_agrees_9 : decode cX5_agrees 9 = .ok (.aload_n 0, 1) := by decide +kernel
theorem dX5_agrees_10 : decode cX5_agrees 10 = .ok (.getfield 35, 3) := by decide +kernel
theorem dX5_agrees_13 : decode cX5_agrees 13 = .ok (.iload_n 1, 1) := by decide +kernel
theorem dX5_agrees_14 : decode cX5_agrees 14 = .ok (.invokevirtual 161, 3) := by decide +kernel
theorem dX5_agrees_17 : decode cX5_agrees 17 = .ok (.ifCond .eq 7, 3) := by decide +kernel
theorem dX5_agrees_20 : decode cX5_agrees 20 = .ok (.iconst 1, 1) := by decide +kernel
theorem dX5_agrees_21 : decode cX5_agrees 21 = .ok (.goto 4, 3) := by decide +kernel
theorem dX5_agrees_24 : decode cX5_agrees 24 = .ok (.iconst 0, 1) := by decide +kernel
theorem dX5_agrees_25 : decode cX5_agrees 25 = .ok (.ireturn, 1) := by decide +kernel
set_option maxRecDepth 20000 in
theorem ggX5_field_X5_within : GoodIn wsX5_field wsX5_within := goodIn_r _ [5] (by decide +kernel) (by decide +kernel)
set_option maxRecDepth 20000 in
theorem gX5_field_X5_within : GoodIn wsX5_field (va_wsS RX5 43 yX5_within wsX5_within) := goodIn_app (goodIn_of _ (by decide +kernel)) ggX5_field_X5_within
set_option maxRecDepth 20000 in
theorem ggX5_field_X0_gatherAgreeing : GoodIn wsX5_field wsX0_gatherAgreeing := goodIn_r _ [10, 11, 12, 13, 14, 15, 9, 16, 17, 18, 19, 20, 21, 22, 23, 24, 25, 26, 27, 28, 29, 30, 31, 32, 33, 34, 35, 36, 37, 38, 39, 40, 41, 42, 43, 44, 45, 46, 47, 48, 49, 50, 51, 52, 53, 54, 55, 56, 57, 58, 59, 60, 61, 62, 63, 64, 65, 66, 67, 68, 69, 70, 71, 72, 73, 74, 75, 76, 77, 78, 79, 80, 4, 81, 82, 83, 84, 85, 86, 87, 88, 89, 90, 91, 92, 93, 94, 95, 96, 97, 98, 99, 100, 101, 102, 103, 104, 105, 106, 107, 108, 109, 145, 146, 147, 148, 149, 150, 151, 152, 153, 154, 155, 156, 157, 158, 159, 160, 161, 162, 163, 164, 165, 166, 167, 168, 169, 170, 171] (by decide +kernel) (by decide +kernel)
set_option maxRecDepth 20000 in
theorem gX5_field_X0_gatherAgreeing : GoodIn wsX5_field (wsV RX5 164 RX0 yX0_gatherAgreeing wsX0_gatherAgreeing) := goodIn_app (goodIn_of _ (by decide +kernel)) ggX5_field_X0_gatherAgreeing
set_option maxRecDepth 20000 in
theorem ggX5_field_X0_leastAgreeing : GoodIn wsX5_field wsX0_leastAgreeing := goodIn_r _ [113, 11, 12, 80, 4, 81, 145, 146, 147, 148, 149, 150, 151, 152] (by decide +kernel) (by decide +kernel)
set_option maxRecDepth 20000 in
theorem gX5_field_X0_leastAgreeing : GoodIn wsX5_field (wsV RX5 170 RX0 yX0_leastAgreeing wsX0_leastAgreeing) := goodIn_app (goodIn_of _ (by decide +kernel)) ggX5_field_X0_leastAgreeing
set_option maxRecDepth 20000 in
theorem ggX5_field_X0_isOdd : GoodIn wsX5_field wsX0_isOdd := goodIn_r _ [117, 11, 12, 80, 4, 81, 64, 65, 9, 66, 145, 146, 147, 148, 149, 150, 151, 152] (by decide +kernel) (by decide +kernel)
set_option maxRecDepth 20000 in
theorem gX5_field_X0_isOdd : GoodIn wsX5_field (wsV RX5 173 RX0 yX0_isOdd wsX0_isOdd) := goodIn_app (goodIn_of _ (by decide +kernel)) ggX5_field_X0_isOdd
set_option maxRecDepth 20000 in
theorem ggX5_field_X0_dayThatTellsMost : GoodIn wsX5_field wsX0_dayThatTellsMost := goodIn_r _ [121, 11, 122, 123, 124, 125, 9, 126, 127, 12, 128, 17, 80, 4, 81, 23, 24, 25, 26, 27, 28, 29, 30, 31, 32, 33, 34, 35, 36, 37, 38, 39, 40, 41, 42, 43, 44, 45, 46, 47, 48, 49, 50, 51, 52, 53, 54, 55, 56, 57, 58, 59, 60, 61, 62, 63, 64, 65, 66, 108, 109, 67, 68, 69, 70, 71, 72, 129, 130, 131, 132, 133, 97, 98, 99, 100, 101, 102, 134, 135, 136, 137, 138, 87, 88, 89, 90, 91, 92, 19, 20, 21, 22, 139, 94, 95, 96, 145, 146, 147, 148, 149, 150, 151, 152, 157, 158, 159, 160, 161, 162, 163, 164, 165, 166, 167, 168, 169, 170, 171] (by decide +kernel) (by decide +kernel)
set_option maxRecDepth 20000 in
theorem gX5_field_X0_dayThatTellsMost : GoodIn wsX5_field (wsV RX5 176 RX0 yX0_dayThatTellsMost wsX0_dayThatTellsMost) := goodIn_app (goodIn_of _ (by decide +kernel)) ggX5_field_X0_dayThatTellsMost
theorem dX5_field_0 : decode cX5_field 0 = .ok (.iload_n 1, 1) := by decide +kernel
theorem dX5_field_1 : decode cX5_field 1 = .ok (.iconst 0, 1) := by decide +kernel
theorem dX5_field_2 : decode cX5_field 2 = .ok (.iconst 3, 1) := by decide +kernel
theorem dX5_field_3 : decode cX5_field 3 = .ok (.invokestatic 43, 3) := by decide +kernel
theorem dX5_field_6 : decode cX5_field 6 = .ok (.ifCond .ne 5, 3) := by decide +kernel
theorem dX5_field_9 : decode cX5_field 9 = .ok (.iconst (-1), 1) := by decide +kernel
theorem dX5_field_10 : decode cX5_field 10 = .ok (.ireturn, 1) := by decide +kernel
theorem dX5_field_11 : decode cX5_field 11 = .ok (.aload_n 0, 1) := by decide +kernel
theorem dX5_field_12 : decode cX5_field 12 = .ok (.getfield 35, 3) := by decide +kernel
theorem dX5_field_15 : decode cX5_field 15 = .ok (.invokevirtual 164, 3) := by decide +kernel
theorem dX5_field_18 : decode cX5_field 18 = .ok (.iload_n 1, 1) := by decide +kernel
theorem dX5_field_19 : decode cX5_field 19 = .ok (.tableswitch 57 0 2 #[25, 33, 41], 25) := by decide +kernel
theorem dX5_field_44 : decode cX5_field 44 = .ok (.aload_n 0, 1) := by decide +kernel
theorem dX5_field_45 : decode cX5_field 45 = .ok (.getfield 35, 3) := by decide +kernel
theorem dX5_field_48 : decode cX5_field 48 = .ok (.getfield 167, 3) := by decide +kernel
theorem dX5_field_51 : decode cX5_field 51 = .ok (.ireturn, 1) := by decide +kernel
theorem dX5_field_52 : decode cX5_field 52 = .ok (.aload_n 0, 1) := by decide +kernel
theorem dX5_field_53 : decode cX5_field 53 = .ok (.getfield 35, 3) := by decide +kernel
theorem dX5_field_56 : decode cX5_field 56 = .ok (.invokevirtual 170, 3) := by decide +kernel
theorem dX5_field_59 : decode cX5_field 59 = .ok (.ireturn, 1) := by decide +kernel
theorem dX5_field_60 : decode cX5_field 60 = .ok (.aload_n 0, 1) := by decide +kernel
theorem dX5_field_61 : decode cX5_field 61 = .ok (.getfield 35, 3) := by decide +kernel
theorem dX5_field_64 : decode cX5_field 64 = .ok (.invokevirtual 173, 3) := by decide +kernel
theorem dX5_field_67 : decode cX5_field 67 = .ok (.ifCond .eq 7, 3) := by decide +kernel
theorem dX5_field_70 : decode cX5_field 70 = .ok (.iconst 1, 1) := by decide +kernel
theorem dX5_field_71 : decode cX5_field 71 = .ok (.goto 4, 3) := by decide +kernel
theorem dX5_field_74 : decode cX5_field 74 = .ok (.iconst 0, 1) := by decide +kernel
theorem dX5_field_75 : decode cX5_field 75 = .ok (.ireturn, 1) := by decide +kernel
theorem dX5_field_76 : decode cX5_field 76 = .ok (.aload_n 0, 1) := by decide +kernel
theorem dX5_field_77 : decode cX5_field 77 = .ok (.getfield 35, 3) := by decide +kernel
theorem dX5_field_80 : decode cX5_field 80 = .ok (.invokevirtual 176, 3) := by decide +kernel
theorem dX5_field_83 : decode cX5_field 83 = .ok (.ireturn, 1) := by decide +kernel
set_option maxRecDepth 20000 in
theorem ggX5_count_X2_setOfOn : GoodIn wsX5_count wsX2_setOfOn := goodIn_r _ [8, 9, 10, 11, 12, 7, 13, 14, 27, 28, 39, 40, 41, 42, 43, 44, 45] (by decide +kernel) (by decide +kernel)
set_option maxRecDepth 20000 in
theorem gX5_count_X2_setOfOn : GoodIn wsX5_count (wsV RX5 120 RX2 yX2_setOfOn wsX2_setOfOn) := goodIn_app (goodIn_of _ (by decide +kernel)) ggX5_count_X2_setOfOn
set_option maxRecDepth 20000 in
theorem ggX5_count_J6_bitCount_0f7a4 : GoodIn wsX5_count wsJ6_bitCount_0f7a4 := goodIn_r _ [18, 19, 20, 21] (by decide +kernel) (by decide +kernel)
set_option maxRecDepth 20000 in
theorem gX5_count_J6_bitCount_0f7a4 : GoodIn wsX5_count (va_wsS RX5 179 yJ6_bitCount_0f7a4 wsJ6_bitCount_0f7a4) := goodIn_app (goodIn_of _ (by decide +kernel)) ggX5_count_J6_bitCount_0f7a4
theorem dX5_count_0 : decode cX5_count 0 = .ok (.iload_n 1, 1) := by decide +kernel
theorem dX5_count_1 : decode cX5_count 1 = .ok (.tableswitch 90 0 5 #[39, 47, 58, 66, 74, 82], 39) := by decide +kernel
theorem dX5_count_40 : decode cX5_count 40 = .ok (.aload_n 0, 1) := by decide +kernel
theorem dX5_count_41 : decode cX5_count 41 = .ok (.getfield 19, 3) := by decide +kernel
theorem dX5_count_44 : decode cX5_count 44 = .ok (.getfield 99, 3) := by decide +kernel
theorem dX5_count_47 : decode cX5_count 47 = .ok (.ireturn, 1) := by decide +kernel
theorem dX5_count_48 : decode cX5_count 48 = .ok (.aload_n 0, 1) := by decide +kernel
theorem dX5_count_49 : decode cX5_count 49 = .ok (.getfield 19, 3) := by decide +kernel
theorem dX5_count_52 : decode cX5_count 52 = .ok (.invokevirtual 120, 3) := by decide +kernel
theorem dX5_count_55 : decode cX5_count 55 = .ok (.invokestatic 179, 3) := by decide +kernel
theorem dX5_count_58 : decode cX5_count 58 = .ok (.ireturn, 1) := by decide +kernel
theorem dX5_count_59 : decode cX5_count 59 = .ok (.aload_n 0, 1) := by decide +kernel
theorem dX5_count_60 : decode cX5_count 60 = .ok (.getfield 26, 3) := by decide +kernel
theorem dX5_count_63 : decode cX5_count 63 = .ok (.getfield 153, 3) := by decide +kernel
theorem dX5_count_66 : decode cX5_count 66 = .ok (.ireturn, 1) := by decide +kernel
theorem dX5_count_67 : decode cX5_count 67 = .ok (.aload_n 0, 1) := by decide +kernel
theorem dX5_count_68 : decode cX5_count 68 = .ok (.getfield 10, 3) := by decide +kernel
theorem dX5_count_71 : decode cX5_count 71 = .ok (.getfield 184, 3) := by decide +kernel
theorem dX5_count_74 : decode cX5_count 74 = .ok (.ireturn, 1) := by decide +kernel
theorem dX5_count_75 : decode cX5_count 75 = .ok (.aload_n 0, 1) := by decide +kernel
theorem dX5_count_76 : decode cX5_count 76 = .ok (.getfield 10, 3) := by decide +kernel
theorem dX5_count_79 : decode cX5_count 79 = .ok (.getfield 130, 3) := by decide +kernel
theorem dX5_count_82 : decode cX5_count 82 = .ok (.ireturn, 1) := by decide +kernel
theorem dX5_count_83 : decode cX5_count 83 = .ok (.aload_n 0, 1) := by decide +kernel
theorem dX5_count_84 : decode cX5_count 84 = .ok (.getfield 10, 3) := by decide +kernel
theorem dX5_count_87 : decode cX5_count 87 = .ok (.getfield 113, 3) := by decide +kernel
theorem dX5_count_90 : decode cX5_count 90 = .ok (.ireturn, 1) := by decide +kernel
theorem dX5_count_91 : decode cX5_count 91 = .ok (.iconst (-1), 1) := by decide +kernel
theorem dX5_count_92 : decode cX5_count 92 = .ok (.ireturn, 1) := by decide +kernel
theorem dX5_trace_0 : decode cX5_trace 0 = .ok (.aload_n 0, 1) := by decide +kernel
theorem dX5_trace_1 : decode cX5_trace 1 = .ok (.getfield 39, 3) := by decide +kernel
theorem dX5_trace_4 : decode cX5_trace 4 = .ok (.lreturn, 1) := by decide +kernel
set_option maxRecDepth 20000 in
theorem ggX5_sureBy_X2_loadOf : GoodIn wsX5_sureBy wsX2_loadOf := goodIn_r _ [7, 8, 9, 10, 11, 6, 12, 13, 14, 15, 16, 17, 18, 19, 20, 21, 22, 23, 24, 25, 26, 27, 28, 29, 30, 31, 32, 33, 34, 71, 72, 73, 74, 75, 76, 77, 78, 79] (by decide +kernel) (by decide +kernel)
set_option maxRecDepth 20000 in
theorem gX5_sureBy_X2_loadOf : GoodIn wsX5_sureBy (wsV RX5 123 RX2 yX2_loadOf wsX2_loadOf) := goodIn_app (goodIn_of _ (by decide +kernel)) ggX5_sureBy_X2_loadOf
set_option maxRecDepth 20000 in
theorem ggX5_sureBy_X1_daysLasted : GoodIn wsX5_sureBy wsX1_daysLasted := goodIn_r _ [39, 40, 41, 42, 43, 38, 44, 45, 46, 47, 48, 49, 50, 51, 52, 53, 54, 55, 56, 57, 58, 59, 65, 66, 67, 68, 69, 70] (by decide +kernel) (by decide +kernel)
set_option maxRecDepth 20000 in
theorem gX5_sureBy_X1_daysLasted : GoodIn wsX5_sureBy (wsV RX5 127 RX1 yX1_daysLasted wsX1_daysLasted) := goodIn_app (goodIn_of _ (by decide +kernel)) ggX5_sureBy_X1_daysLasted
theorem dX5_sureBy_0 : decode cX5_sureBy 0 = .ok (.aload_n 0, 1) := by decide +kernel
theorem dX5_sureBy_1 : decode cX5_sureBy 1 = .ok (.getfield 10, 3) := by decide +kernel
theorem dX5_sureBy_4 : decode cX5_sureBy 4 = .ok (.aload_n 0, 1) := by decide +kernel
theorem dX5_sureBy_5 : decode cX5_sureBy 5 = .ok (.getfield 19, 3) := by decide +kernel
theorem dX5_sureBy_8 : decode cX5_sureBy 8 = .ok (.iload_n 1, 1) := by decide +kernel
theorem dX5_sureBy_9 : decode cX5_sureBy 9 = .ok (.iconst 5, 1) := by decide +kernel
theorem dX5_sureBy_10 : decode cX5_sureBy 10 = .ok (.aload_n 0, 1) := by decide +kernel
theorem dX5_sureBy_11 : decode cX5_sureBy 11 = .ok (.getfield 10, 3) := by decide +kernel
theorem dX5_sureBy_14 : decode cX5_sureBy 14 = .ok (.getfield 113, 3) := by decide +kernel
theorem dX5_sureBy_17 : decode cX5_sureBy 17 = .ok (.invokevirtual 123, 3) := by decide +kernel
theorem dX5_sureBy_20 : decode cX5_sureBy 20 = .ok (.invokevirtual 127, 3) := by decide +kernel
theorem dX5_sureBy_23 : decode cX5_sureBy 23 = .ok (.ireturn, 1) := by decide +kernel
set_option maxRecDepth 20000 in
theorem ggX5_worthiestSet_X2_worthOf : GoodIn wsX5_worthiestSet wsX2_worthOf := goodIn_r _ [6, 7, 8, 9, 10, 5, 11, 12, 13, 14, 15, 16, 73, 74, 75, 76, 77, 78, 79, 80, 81] (by decide +kernel) (by decide +kernel)
set_option maxRecDepth 20000 in
theorem gX5_worthiestSet_X2_worthOf : GoodIn wsX5_worthiestSet (wsV RX5 147 RX2 yX2_worthOf wsX2_worthOf) := goodIn_app (goodIn_of _ (by decide +kernel)) ggX5_worthiestSet_X2_worthOf
set_option maxRecDepth 20000 in
theorem ggX5_worthiestSet_X5_sureBy : GoodIn wsX5_worthiestSet wsX5_sureBy := goodIn_r _ [21, 22, 1, 23, 24, 25, 5, 26, 7, 8, 9, 10, 11, 12, 13, 14, 15, 16, 27, 28, 29, 30, 31, 32, 33, 34, 35, 36, 37, 38, 39, 40, 41, 42, 43, 44, 45, 46, 47, 48, 49, 50, 51, 52, 53, 54, 55, 56, 57, 58, 59, 60, 61, 62, 20, 63, 64, 65, 66, 67, 68, 69, 70, 71, 72, 82, 83, 84, 85, 86, 87, 73, 74, 75, 76, 77, 78, 79, 80, 81] (by decide +kernel) (by decide +kernel)
set_option maxRecDepth 20000 in
theorem gX5_worthiestSet_X5_sureBy : GoodIn wsX5_worthiestSet (wsV RX5 141 RX5 yX5_sureBy wsX5_sureBy) := goodIn_app (goodIn_of _ (by decide +kernel)) ggX5_worthiestSet_X5_sureBy
theorem dX5_worthiestSet_0 : decode cX5_worthiestSet 0 = .ok (.bipush (-9), 2) := by decide +kernel
theorem dX5_worthiestSet_2 : decode cX5_worthiestSet 2 = .ok (.istore_n 2, 1) := by decide +kernel
theorem dX5_worthiestSet_3 : decode cX5_worthiestSet 3 = .ok (.iconst (-1), 1) := by decide +kernel
theorem dX5_worthiestSet_4 : decode cX5_worthiestSet 4 = .ok (.istore_n 3, 1) := by decide +kernel
theorem dX5_worthiestSet_5 : decode cX5_worthiestSet 5 = .ok (.iconst 1, 1) := by decide +kernel
theorem dX5_worthiestSet_6 : decode cX5_worthiestSet 6 = .ok (.aload_n 0, 1) := by decide +kernel
theorem dX5_worthiestSet_7 : decode cX5_worthiestSet 7 = .ok (.getfield 19, 3) := by decide +kernel
theorem dX5_worthiestSet_10 : decode cX5_worthiestSet 10 = .ok (.getfield 99, 3) := by decide +kernel
theorem dX5_worthiestSet_13 : decode cX5_worthiestSet 13 = .ok (.ishl, 1) := by decide +kernel
theorem dX5_worthiestSet_14 : decode cX5_worthiestSet 14 = .ok (.istore 4, 2) := by decide +kernel
theorem dX5_worthiestSet_16 : decode cX5_worthiestSet 16 = .ok (.iconst 0, 1) := by decide +kernel
theorem dX5_worthiestSet_17 : decode cX5_worthiestSet 17 = .ok (.istore 5, 2) := by decide +kernel
theorem dX5_worthiestSet_19 : decode cX5_worthiestSet 19 = .ok (.iload 5, 2) := by decide +kernel
theorem dX5_worthiestSet_21 : decode cX5_worthiestSet 21 = .ok (.iload 4, 2) := by decide +kernel
theorem dX5_worthiestSet_23 : decode cX5_worthiestSet 23 = .ok (.if_icmp .ge 42, 3) := by decide +kernel
theorem dX5_worthiestSet_26 : decode cX5_worthiestSet 26 = .ok (.aload_n 0, 1) := by decide +kernel
theorem dX5_worthiestSet_27 : decode cX5_worthiestSet 27 = .ok (.getfield 19, 3) := by decide +kernel
theorem dX5_worthiestSet_30 : decode cX5_worthiestSet 30 = .ok (.iload 5, 2) := by decide +kernel
theorem dX5_worthiestSet_32 : decode cX5_worthiestSet 32 = .ok (.invokevirtual 147, 3) := by decide +kernel
theorem dX5_worthiestSet_35 : decode cX5_worthiestSet 35 = .ok (.istore 6, 2) := by decide +kernel
theorem dX5_worthiestSet_37 : decode cX5_worthiestSet 37 = .ok (.iload 6, 2) := by decide +kernel
theorem dX5_worthiestSet_39 : decode cX5_worthiestSet 39 = .ok (.iload_n 3, 1) := by decide +kernel
theorem dX5_worthiestSet_40 : decode cX5_worthiestSet 40 = .ok (.if_icmp .le 19, 3) := by decide +kernel
theorem dX5_worthiestSet_43 : decode cX5_worthiestSet 43 = .ok (.aload_n 0, 1) := by decide +kernel
theorem dX5_worthiestSet_44 : decode cX5_worthiestSet 44 = .ok (.iload 5, 2) := by decide +kernel
theorem dX5_worthiestSet_46 : decode cX5_worthiestSet 46 = .ok (.invokevirtual 141, 3) := by decide +kernel
theorem dX5_worthiestSet_49 : decode cX5_worthiestSet 49 = .ok (.iload_n 1, 1) := by decide +kernel
theorem dX5_worthiestSet_50 : decode cX5_worthiestSet 50 = .ok (.if_icmp .lt 9, 3) := by decide +kernel
theorem dX5_worthiestSet_53 : decode cX5_worthiestSet 53 = .ok (.iload 5, 2) := by decide +kernel
theorem dX5_worthiestSet_55 : decode cX5_worthiestSet 55 = .ok (.istore_n 2, 1) := by decide +kernel
theorem dX5_worthiestSet_56 : decode cX5_worthiestSet 56 = .ok (.iload 6, 2) := by decide +kernel
theorem dX5_worthiestSet_58 : decode cX5_worthiestSet 58 = .ok (.istore_n 3, 1) := by decide +kernel
theorem dX5_worthiestSet_59 : decode cX5_worthiestSet 59 = .ok (.iinc 5 1, 3) := by decide +kernel
theorem dX5_worthiestSet_62 : decode cX5_worthiestSet 62 = .ok (.goto (-43), 3) := by decide +kernel
theorem dX5_worthiestSet_65 : decode cX5_worthiestSet 65 = .ok (.iload_n 2, 1) := by decide +kernel
theorem dX5_worthiestSet_66 : decode cX5_worthiestSet 66 = .ok (.ireturn, 1) := by decide +kernel
theorem dX5_within_0 : decode cX5_within 0 = .ok (.iload_n 0, 1) := by decide +kernel
theorem dX5_within_1 : decode cX5_within 1 = .ok (.iload_n 1, 1) := by decide +kernel
theorem dX5_within_2 : decode cX5_within 2 = .ok (.if_icmp .lt 12, 3) := by decide +kernel
theorem dX5_within_5 : decode cX5_within 5 = .ok (.iload_n 0, 1) := by decide +kernel
theorem dX5_within_6 : decode cX5_within 6 = .ok (.iload_n 2, 1) := by decide +kernel
theorem dX5_within_7 : decode cX5_within 7 = .ok (.if_icmp .gt 7, 3) := by decide +kernel
theorem dX5_within_10 : decode cX5_within 10 = .ok (.iconst 1, 1) := by decide +kernel
theorem dX5_within_11 : decode cX5_within 11 = .ok (.goto 4, 3) := by decide +kernel
theorem dX5_within_14 : decode cX5_within 14 = .ok (.iconst 0, 1) := by decide +kernel
theorem dX5_within_15 : decode cX5_within 15 = .ok (.ireturn, 1) := by decide +kernel
set_option maxRecDepth 20000 in
theorem ggX5_isDay_X5_within : GoodIn wsX5_isDay wsX5_within := goodIn_r _ [4] (by decide +kernel) (by decide +kernel)
set_option maxRecDepth 20000 in
theorem gX5_isDay_X5_within : GoodIn wsX5_isDay (va_wsS RX5 43 yX5_within wsX5_within) := goodIn_app (goodIn_of _ (by decide +kernel)) ggX5_isDay_X5_within
theorem dX5_isDay_0 : decode cX5_isDay 0 = .ok (.iload_n 0, 1) := by decide +kernel
theorem dX5_isDay_1 : decode cX5_isDay 1 = .ok (.iconst 0, 1) := by decide +kernel
theorem dX5_isDay_2 : decode cX5_isDay 2 = .ok (.sipush 399, 3) := by decide +kernel
theorem dX5_isDay_5 : decode cX5_isDay 5 = .ok (.invokestatic 43, 3) := by decide +kernel
theorem dX5_isDay_8 : decode cX5_isDay 8 = .ok (.ireturn, 1) := by decide +kernel
set_option maxRecDepth 20000 in
theorem ggX5_isTries_X5_within : GoodIn wsX5_isTries wsX5_within := goodIn_r _ [4] (by decide +kernel) (by decide +kernel)
set_option maxRecDepth 20000 in
theorem gX5_isTries_X5_within : GoodIn wsX5_isTries (va_wsS RX5 43 yX5_within wsX5_within) := goodIn_app (goodIn_of _ (by decide +kernel)) ggX5_isTries_X5_within
theorem dX5_isTries_0 : decode cX5_isTries 0 = .ok (.iload_n 0, 1) := by decide +kernel
theorem dX5_isTries_1 : decode cX5_isTries 1 = .ok (.iconst 1, 1) := by decide +kernel
theorem dX5_isTries_2 : decode cX5_isTries 2 = .ok (.iconst 5, 1) := by decide +kernel
theorem dX5_isTries_3 : decode cX5_isTries 3 = .ok (.invokestatic 43, 3) := by decide +kernel
theorem dX5_isTries_6 : decode cX5_isTries 6 = .ok (.ireturn, 1) := by decide +kernel
theorem dX5_powerOfThree_0 : decode cX5_powerOfThree 0 = .ok (.iconst 1, 1) := by decide +kernel
theorem dX5_powerOfThree_1 : decode cX5_powerOfThree 1 = .ok (.istore_n 1, 1) := by decide +kernel
theorem dX5_powerOfThree_2 : decode cX5_powerOfThree 2 = .ok (.iconst 0, 1) := by decide +kernel
theorem dX5_powerOfThree_3 : decode cX5_powerOfThree 3 = .ok (.istore_n 2, 1) := by decide +kernel
theorem dX5_powerOfThree_4 : decode cX5_powerOfThree 4 = .ok (.iload_n 2, 1) := by decide +kernel
theorem dX5_powerOfThree_5 : decode cX5_powerOfThree 5 = .ok (.iload_n 0, 1) := by decide +kernel
theorem dX5_powerOfThree_6 : decode cX5_powerOfThree 6 = .ok (.if_icmp .ge 19, 3) := by decide +kernel
theorem dX5_powerOfThree_9 : decode cX5_powerOfThree 9 = .ok (.iload_n 2, 1) := by decide +kernel
theorem dX5_powerOfThree_10 : decode cX5_powerOfThree 10 = .ok (.bipush 12, 2) := by decide +kernel
theorem dX5_powerOfThree_12 : decode cX5_powerOfThree 12 = .ok (.if_icmp .ge 13, 3) := by decide +kernel
theorem dX5_powerOfThree_15 : decode cX5_powerOfThree 15 = .ok (.iload_n 1, 1) := by decide +kernel
theorem dX5_powerOfThree_16 : decode cX5_powerOfThree 16 = .ok (.iconst 3, 1) := by decide +kernel
theorem dX5_powerOfThree_17 : decode cX5_powerOfThree 17 = .ok (.imul, 1) := by decide +kernel
theorem dX5_powerOfThree_18 : decode cX5_powerOfThree 18 = .ok (.istore_n 1, 1) := by decide +kernel
theorem dX5_powerOfThree_19 : decode cX5_powerOfThree 19 = .ok (.iinc 2 1, 3) := by decide +kernel
theorem dX5_powerOfThree_22 : decode cX5_powerOfThree 22 = .ok (.goto (-18), 3) := by decide +kernel
theorem dX5_powerOfThree_25 : decode cX5_powerOfThree 25 = .ok (.iload_n 1, 1) := by decide +kernel
theorem dX5_powerOfThree_26 : decode cX5_powerOfThree 26 = .ok (.ireturn, 1) := by decide +kernel
theorem dX5_at_0 : decode cX5_at 0 = .ok (.iload_n 1, 1) := by decide +kernel
theorem dX5_at_1 : decode cX5_at 1 = .ok (.ifCond .lt 15, 3) := by decide +kernel
theorem dX5_at_4 : decode cX5_at 4 = .ok (.iload_n 1, 1) := by decide +kernel
theorem dX5_at_5 : decode cX5_at 5 = .ok (.aload_n 0, 1) := by decide +kernel
theorem dX5_at_6 : decode cX5_at 6 = .ok (.arraylength, 1) := by decide +kernel
theorem dX5_at_7 : decode cX5_at 7 = .ok (.if_icmp .ge 9, 3) := by decide +kernel
theorem dX5_at_10 : decode cX5_at 10 = .ok (.aload_n 0, 1) := by decide +kernel
theorem dX5_at_11 : decode cX5_at 11 = .ok (.iload_n 1, 1) := by decide +kernel
theorem dX5_at_12 : decode cX5_at 12 = .ok (.iaload, 1) := by decide +kernel
theorem dX5_at_13 : decode cX5_at 13 = .ok (.goto 4, 3) := by decide +kernel
theorem dX5_at_16 : decode cX5_at 16 = .ok (.iconst 0, 1) := by decide +kernel
theorem dX5_at_17 : decode cX5_at 17 = .ok (.ireturn, 1) := by decide +kernel
theorem dX5_put_0 : decode cX5_put 0 = .ok (.iload_n 1, 1) := by decide +kernel
theorem dX5_put_1 : decode cX5_put 1 = .ok (.ifCond .lt 13, 3) := by decide +kernel
theorem dX5_put_4 : decode cX5_put 4 = .ok (.iload_n 1, 1) := by decide +kernel
theorem dX5_put_5 : decode cX5_put 5 = .ok (.aload_n 0, 1) := by decide +kernel
theorem dX5_put_6 : decode cX5_put 6 = .ok (.arraylength, 1) := by decide +kernel
theorem dX5_put_7 : decode cX5_put 7 = .ok (.if_icmp .ge 7, 3) := by decide +kernel
theorem dX5_put_10 : decode cX5_put 10 = .ok (.aload_n 0, 1) := by decide +kernel
theorem dX5_put_11 : decode cX5_put 11 = .ok (.iload_n 1, 1) := by decide +kernel
theorem dX5_put_12 : decode cX5_put 12 = .ok (.iload_n 2, 1) := by decide +kernel
theorem dX5_put_13 : decode cX5_put 13 = .ok (.iastore, 1) := by decide +kernel
theorem dX5_put_14 : decode cX5_put 14 = .ok (.return_, 1) := by decide +kernel
end
section
theorem dX6_init_0 : decode cX6_init 0 = .ok (.aload_n 0, 1) := by decide +kernel
theorem dX6_init_1 : decode cX6_init 1 = .ok (.invokespecial 1, 3) := by decide +kernel
theorem dX6_init_4 : decode cX6_init 4 = .ok (.aload_n 0, 1) := by decide +kernel
theorem dX6_init_5 : decode cX6_init 5 = .ok (.iconst 3, 1) := by decide +kernel
theorem dX6_init_6 : decode cX6_init 6 = .ok (.newarray .int, 2) := by decide +kernel
theorem dX6_init_8 : decode cX6_init 8 = .ok (.putfield 7, 3) := by decide +kernel
theorem dX6_init_11 : decode cX6_init 11 = .ok (.aload_n 0, 1) := by decide +kernel
theorem dX6_init_12 : decode cX6_init 12 = .ok (.iconst 3, 1) := by decide +kernel
theorem dX6_init_13 : decode cX6_init 13 = .ok (.newarray .int, 2) := by decide +kernel
theorem dX6_init_15 : decode cX6_init 15 = .ok (.putfield 13, 3) := by decide +kernel
theorem dX6_init_18 : decode cX6_init 18 = .ok (.aload_n 0, 1) := by decide +kernel
theorem dX6_init_19 : decode cX6_init 19 = .ok (.iconst 1, 1) := by decide +kernel
theorem dX6_init_20 : decode cX6_init 20 = .ok (.putfield 16, 3) := by decide +kernel
theorem dX6_init_23 : decode cX6_init 23 = .ok (.aload_n 0, 1) := by decide +kernel
theorem dX6_init_24 : decode cX6_init 24 = .ok (.bipush 12, 2) := by decide +kernel
theorem dX6_init_26 : decode cX6_init 26 = .ok (.newarray .int, 2) := by decide +kernel
theorem dX6_init_28 : decode cX6_init 28 = .ok (.putfield 20, 3) := by decide +kernel
theorem dX6_init_31 : decode cX6_init 31 = .ok (.aload_n 0, 1) := by decide +kernel
theorem dX6_init_32 : decode cX6_init 32 = .ok (.bipush 8, 2) := by decide +kernel
theorem dX6_init_34 : decode cX6_init 34 = .ok (.newarray .int, 2) := by decide +kernel
theorem dX6_init_36 : decode cX6_init 36 = .ok (.putfield 23, 3) := by decide +kernel
theorem dX6_init_39 : decode cX6_init 39 = .ok (.aload_n 0, 1) := by decide +kernel
theorem dX6_init_40 : decode cX6_init 40 = .ok (.bipush 8, 2) := by decide +kernel
theorem dX6_init_42 : decode cX6_init 42 = .ok (.newarray .int, 2) := by decide +kernel
theorem dX6_init_44 : decode cX6_init 44 = .ok (.putfield 26, 3) := by decide +kernel
theorem dX6_init_47 : decode cX6_init 47 = .ok (.aload_n 0, 1) := by decide +kernel
theorem dX6_init_48 : decode cX6_init 48 = .ok (.bipush 8, 2) := by decide +kernel
theorem dX6_init_50 : decode cX6_init 50 = .ok (.newarray .int, 2) := by decide +kernel
theorem dX6_init_52 : decode cX6_init 52 = .ok (.putfield 29, 3) := by decide +kernel
theorem dX6_init_55 : decode cX6_init 55 = .ok (.aload_n 0, 1) := by decide +kernel
theorem dX6_init_56 : decode cX6_init 56 = .ok (.bipush 8, 2) := by decide +kernel
theorem dX6_init_58 : decode cX6_init 58 = .ok (.newarray .int, 2) := by decide +kernel
theorem dX6_init_60 : decode cX6_init 60 = .ok (.putfield 32, 3) := by decide +kernel
theorem dX6_init_63 : decode cX6_init 63 = .ok (.aload_n 0, 1) := by decide +kernel
theorem dX6_init_64 : decode cX6_init 64 = .ok (.bipush 8, 2) := by decide +kernel
theorem dX6_init_66 : decode cX6_init 66 = .ok (.newarray .int, 2) := by decide +kernel
theorem dX6_init_68 : decode cX6_init 68 = .ok (.putfield 35, 3) := by decide +kernel
theorem dX6_init_71 : decode cX6_init 71 = .ok (.aload_n 0, 1) := by decide +kernel
theorem dX6_init_72 : decode cX6_init 72 = .ok (.bipush 8, 2) := by decide +kernel
theorem dX6_init_74 : decode cX6_init 74 = .ok (.newarray .int, 2) := by decide +kernel
theorem dX6_init_76 : decode cX6_init 76 = .ok (.putfield 38, 3) := by decide +kernel
theorem dX6_init_79 : decode cX6_init 79 = .ok (.aload_n 0, 1) := by decide +kernel
theorem dX6_init_80 : decode cX6_init 80 = .ok (.bipush 8, 2) := by decide +kernel
theorem dX6_init_82 : decode cX6_init 82 = .ok (.newarray .boolean, 2) := by decide +kernel
theorem dX6_init_84 : decode cX6_init 84 = .ok (.putfield 41, 3) := by decide +kernel
theorem dX6_init_87 : decode cX6_init 87 = .ok (.aload_n 0, 1) := by decide +kernel
theorem dX6_init_88 : decode cX6_init 88 = .ok (.bipush 12, 2) := by decide +kernel
theorem dX6_init_90 : decode cX6_init 90 = .ok (.newarray .int, 2) := by decide +kernel
theorem dX6_init_92 : decode cX6_init 92 = .ok (.putfield 45, 3) := by decide +kernel
theorem dX6_init_95 : decode cX6_init 95 = .ok (.aload_n 0, 1) := by decide +kernel
theorem dX6_init_96 : decode cX6_init 96 = .ok (.bipush 12, 2) := by decide +kernel
theorem dX6_init_98 : decode cX6_init 98 = .ok (.newarray .int, 2) := by decide +kernel
theorem dX6_init_100 : decode cX6_init 100 = .ok (.putfield 48, 3) := by decide +kernel
theorem dX6_init_103 : decode cX6_init 103 = .ok (.aload_n 0, 1) := by decide +kernel
theorem dX6_init_104 : decode cX6_init 104 = .ok (.sipush 400, 3) := by decide +kernel
theorem dX6_init_107 : decode cX6_init 107 = .ok (.newarray .int, 2) := by decide +kernel
theorem dX6_init_109 : decode cX6_init 109 = .ok (.putfield 51, 3) := by decide +kernel
theorem dX6_init_112 : decode cX6_init 112 = .ok (.aload_n 0, 1) := by decide +kernel
theorem dX6_init_113 : decode cX6_init 113 = .ok (.sipush 4000, 3) := by decide +kernel
theorem dX6_init_116 : decode cX6_init 116 = .ok (.newarray .int, 2) := by decide +kernel
theorem dX6_init_118 : decode cX6_init 118 = .ok (.putfield 54, 3) := by decide +kernel
theorem dX6_init_121 : decode cX6_init 121 = .ok (.aload_n 0, 1) := by decide +kernel
theorem dX6_init_122 : decode cX6_init 122 = .ok (.getfield 7, 3) := by decide +kernel
theorem dX6_init_125 : decode cX6_init 125 = .ok (.iconst 0, 1) := by decide +kernel
theorem dX6_init_126 : decode cX6_init 126 = .ok (.sipush 1000, 3) := by decide +kernel
theorem dX6_init_129 : decode cX6_init 129 = .ok (.iastore, 1) := by decide +kernel
theorem dX6_init_130 : decode cX6_init 130 = .ok (.aload_n 0, 1) := by decide +kernel
theorem dX6_init_131 : decode cX6_init 131 = .ok (.getfield 7, 3) := by decide +kernel
theorem dX6_init_134 : decode cX6_init 134 = .ok (.iconst 1, 1) := by decide +kernel
theorem dX6_init_135 : decode cX6_init 135 = .ok (.iconst 1, 1) := by decide +kernel
theorem dX6_init_136 : decode cX6_init 136 = .ok (.iastore, 1) := by decide +kernel
theorem dX6_init_137 : decode cX6_init 137 = .ok (.aload_n 0, 1) := by decide +kernel
theorem dX6_init_138 : decode cX6_init 138 = .ok (.getfield 7, 3) := by decide +kernel
theorem dX6_init_141 : decode cX6_init 141 = .ok (.iconst 2, 1) := by decide +kernel
theorem dX6_init_142 : decode cX6_init 142 = .ok (.bipush 50, 2) := by decide +kernel
theorem dX6_init_144 : decode cX6_init 144 = .ok (.iastore, 1) := by decide +kernel
theorem dX6_init_145 : decode cX6_init 145 = .ok (.aload_n 0, 1) := by decide +kernel
theorem dX6_init_146 : decode cX6_init 146 = .ok (.getfield 13, 3) := by decide +kernel
theorem dX6_init_149 : decode cX6_init 149 = .ok (.iconst 0, 1) := by decide +kernel
theorem dX6_init_150 : decode cX6_init 150 = .ok (.bipush 100, 2) := by decide +kernel
theorem dX6_init_152 : decode cX6_init 152 = .ok (.iastore, 1) := by decide +kernel
theorem dX6_init_153 : decode cX6_init 153 = .ok (.aload_n 0, 1) := by decide +kernel
theorem dX6_init_154 : decode cX6_init 154 = .ok (.getfield 13, 3) := by decide +kernel
theorem dX6_init_157 : decode cX6_init 157 = .ok (.iconst 1, 1) := by decide +kernel
theorem dX6_init_158 : decode cX6_init 158 = .ok (.bipush 90, 2) := by decide +kernel
theorem dX6_init_160 : decode cX6_init 160 = .ok (.iastore, 1) := by decide +kernel
theorem dX6_init_161 : decode cX6_init 161 = .ok (.aload_n 0, 1) := by decide +kernel
theorem dX6_init_162 : decode cX6_init 162 = .ok (.getfield 13, 3) := by decide +kernel
theorem dX6_init_165 : decode cX6_init 165 = .ok (.iconst 2, 1) := by decide +kernel
theorem dX6_init_166 : decode cX6_init 166 = .ok (.bipush 70, 2) := by decide +kernel
theorem dX6_init_168 : decode cX6_init 168 = .ok (.iastore, 1) := by decide +kernel
theorem dX6_init_169 : decode cX6_init 169 = .ok (.return_, 1) := by decide +kernel
theorem dX6_in_0 : decode cX6_in 0 = .ok (.iload_n 0, 1) := by decide +kernel
theorem dX6_in_1 : decode cX6_in 1 = .ok (.iload_n 1, 1) := by decide +kernel
theorem dX6_in_2 : decode cX6_in 2 = .ok (.if_icmp .lt 12, 3) := by decide +kernel
theorem dX6_in_5 : decode cX6_in 5 = .ok (.iload_n 0, 1) := by decide +kernel
theorem dX6_in_6 : decode cX6_in 6 = .ok (.iload_n 2, 1) := by decide +kernel
theorem dX6_in_7 : decode cX6_in 7 = .ok (.if_icmp .gt 7, 3) := by decide +kernel
theorem dX6_in_10 : decode cX6_in 10 = .ok (.iconst 1, 1) := by decide +kernel
theorem dX6_in_11 : decode cX6_in 11 = .ok (.goto 4, 3) := by decide +kernel
theorem dX6_in_14 : decode cX6_in 14 = .ok (.iconst 0, 1) := by decide +kernel
theorem dX6_in_15 : decode cX6_in 15 = .ok (.ireturn, 1) := by decide +kernel
set_option maxRecDepth 20000 in
theorem ggX6_set_X6_in : GoodIn wsX6_set wsX6_in := goodIn_r _ [6] (by decide +kernel) (by decide +kernel)
set_option maxRecDepth 20000 in
theorem gX6_set_X6_in : GoodIn wsX6_set (va_wsS RX6 60 yX6_in wsX6_in) := goodIn_app (goodIn_of _ (by decide +kernel)) ggX6_set_X6_in
theorem dX6_set_0 : decode cX6_set 0 = .ok (.aload_n 0, 1) := by decide +kernel
theorem dX6_set_1 : decode cX6_set 1 = .ok (.iconst 0, 1) := by decide +kernel
theorem dX6_set_2 : decode cX6_set 2 = .ok (.putfield 57, 3) := by decide +kernel
theorem dX6_set_5 : decode cX6_set 5 = .ok (.iload_n 1, 1) := by decide +kernel
theorem dX6_set_6 : decode cX6_set 6 = .ok (.iconst 0, 1) := by decide +kernel
theorem dX6_set_7 : decode cX6_set 7 = .ok (.iconst 2, 1) := by decide +kernel
theorem dX6_set_8 : decode cX6_set 8 = .ok (.invokestatic 60, 3) := by decide +kernel
theorem dX6_set_11 : decode cX6_set 11 = .ok (.ifCond .eq 43, 3) := by decide +kernel
theorem dX6_set_14 : decode cX6_set 14 = .ok (.iload_n 2, 1) := by decide +kernel
theorem dX6_set_15 : decode cX6_set 15 = .ok (.iload_n 1, 1) := by decide +kernel
theorem dX6_set_16 : decode cX6_set 16 = .ok (.iconst 1, 1) := by decide +kernel
theorem dX6_set_17 : decode cX6_set 17 = .ok (.if_icmp .ne 7, 3) := by decide +kernel
theorem dX6_set_20 : decode cX6_set 20 = .ok (.iconst 0, 1) := by decide +kernel
theorem dX6_set_21 : decode cX6_set 21 = .ok (.goto 4, 3) := by decide +kernel
theorem dX6_set_24 : decode cX6_set 24 = .ok (.iconst 1, 1) := by decide +kernel
theorem dX6_set_25 : decode cX6_set 25 = .ok (.iload_n 1, 1) := by decide +kernel
theorem dX6_set_26 : decode cX6_set 26 = .ok (.ifCond .ne 9, 3) := by decide +kernel
theorem dX6_set_29 : decode cX6_set 29 = .ok (.sipush 5000, 3) := by decide +kernel
theorem dX6_set_32 : decode cX6_set 32 = .ok (.goto 16, 3) := by decide +kernel
theorem dX6_set_35 : decode cX6_set 35 = .ok (.iload_n 1, 1) := by decide +kernel
theorem dX6_set_36 : decode cX6_set 36 = .ok (.iconst 1, 1) := by decide +kernel
theorem dX6_set_37 : decode cX6_set 37 = .ok (.if_icmp .ne 8, 3) := by decide +kernel
theorem dX6_set_40 : decode cX6_set 40 = .ok (.bipush 20, 2) := by decide +kernel
theorem dX6_set_42 : decode cX6_set 42 = .ok (.goto 6, 3) := by decide +kernel
theorem dX6_set_45 : decode cX6_set 45 = .ok (.sipush 500, 3) := by decide +kernel
theorem dX6_set_48 : decode cX6_set 48 = .ok (.invokestatic 60, 3) := by decide +kernel
theorem dX6_set_51 : decode cX6_set 51 = .ok (.ifCond .ne 5, 3) := by decide +kernel
theorem dX6_set_54 : decode cX6_set 54 = .ok (.iconst (-1), 1) := by decide +kernel
theorem dX6_set_55 : decode cX6_set 55 = .ok (.ireturn, 1) := by decide +kernel
theorem dX6_set_56 : decode cX6_set 56 = .ok (.aload_n 0, 1) := by decide +kernel
theorem dX6_set_57 : decode cX6_set 57 = .ok (.getfield 7, 3) := by decide +kernel
theorem dX6_set_60 : decode cX6_set 60 = .ok (.iload_n 1, 1) := by decide +kernel
theorem dX6_set_61 : decode cX6_set 61 = .ok (.iaload, 1) := by decide +kernel
theorem dX6_set_62 : decode cX6_set 62 = .ok (.istore_n 3, 1) := by decide +kernel
theorem dX6_set_63 : decode cX6_set 63 = .ok (.aload_n 0, 1) := by decide +kernel
theorem dX6_set_64 : decode cX6_set 64 = .ok (.getfield 7, 3) := by decide +kernel
theorem dX6_set_67 : decode cX6_set 67 = .ok (.iload_n 1, 1) := by decide +kernel
theorem dX6_set_68 : decode cX6_set 68 = .ok (.iload_n 2, 1) := by decide +kernel
theorem dX6_set_69 : decode cX6_set 69 = .ok (.iastore, 1) := by decide +kernel
theorem dX6_set_70 : decode cX6_set 70 = .ok (.iload_n 3, 1) := by decide +kernel
theorem dX6_set_71 : decode cX6_set 71 = .ok (.ireturn, 1) := by decide +kernel
set_option maxRecDepth 20000 in
theorem ggX6_shares_X6_in : GoodIn wsX6_shares wsX6_in := goodIn_r _ [6] (by decide +kernel) (by decide +kernel)
set_option maxRecDepth 20000 in
theorem gX6_shares_X6_in : GoodIn wsX6_shares (va_wsS RX6 60 yX6_in wsX6_in) := goodIn_app (goodIn_of _ (by decide +kernel)) ggX6_shares_X6_in
theorem dX6_shares_0 : decode cX6_shares 0 = .ok (.aload_n 0, 1) := by decide +kernel
theorem dX6_shares_1 : decode cX6_shares 1 = .ok (.iconst 0, 1) := by decide +kernel
theorem dX6_shares_2 : decode cX6_shares 2 = .ok (.putfield 57, 3) := by decide +kernel
theorem dX6_shares_5 : decode cX6_shares 5 = .ok (.iload_n 1, 1) := by decide +kernel
theorem dX6_shares_6 : decode cX6_shares 6 = .ok (.bipush 10, 2) := by decide +kernel
theorem dX6_shares_8 : decode cX6_shares 8 = .ok (.bipush 100, 2) := by decide +kernel
theorem dX6_shares_10 : decode cX6_shares 10 = .ok (.invokestatic 60, 3) := by decide +kernel
theorem dX6_shares_13 : decode cX6_shares 13 = .ok (.ifCond .eq 23, 3) := by decide +kernel
theorem dX6_shares_16 : decode cX6_shares 16 = .ok (.iload_n 2, 1) := by decide +kernel
theorem dX6_shares_17 : decode cX6_shares 17 = .ok (.bipush 10, 2) := by decide +kernel
theorem dX6_shares_19 : decode cX6_shares 19 = .ok (.iload_n 1, 1) := by decide +kernel
theorem dX6_shares_20 : decode cX6_shares 20 = .ok (.invokestatic 60, 3) := by decide +kernel
theorem dX6_shares_23 : decode cX6_shares 23 = .ok (.ifCond .eq 13, 3) := by decide +kernel
theorem dX6_shares_26 : decode cX6_shares 26 = .ok (.iload_n 3, 1) := by decide +kernel
theorem dX6_shares_27 : decode cX6_shares 27 = .ok (.bipush 10, 2) := by decide +kernel
theorem dX6_shares_29 : decode cX6_shares 29 = .ok (.iload_n 2, 1) := by decide +kernel
theorem dX6_shares_30 : decode cX6_shares 30 = .ok (.invokestatic 60, 3) := by decide +kernel
theorem dX6_shares_33 : decode cX6_shares 33 = .ok (.ifCond .ne 5, 3) := by decide +kernel
theorem dX6_shares_36 : decode cX6_shares 36 = .ok (.iconst (-1), 1) := by decide +kernel
theorem dX6_shares_37 : decode cX6_shares 37 = .ok (.ireturn, 1) := by decide +kernel
theorem dX6_shares_38 : decode cX6_shares 38 = .ok (.aload_n 0, 1) := by decide +kernel
theorem dX6_shares_39 : decode cX6_shares 39 = .ok (.getfield 13, 3) := by decide +kernel
theorem dX6_shares_42 : decode cX6_shares 42 = .ok (.iconst 0, 1) := by decide +kernel
theorem dX6_shares_43 : decode cX6_shares 43 = .ok (.iload_n 1, 1) := by decide +kernel
theorem dX6_shares_44 : decode cX6_shares 44 = .ok (.iastore, 1) := by decide +kernel
theorem dX6_shares_45 : decode cX6_shares 45 = .ok (.aload_n 0, 1) := by decide +kernel
theorem dX6_shares_46 : decode cX6_shares 46 = .ok (.getfield 13, 3) := by decide +kernel
theorem dX6_shares_49 : decode cX6_shares 49 = .ok (.iconst 1, 1) := by decide +kernel
theorem dX6_shares_50 : decode cX6_shares 50 = .ok (.iload_n 2, 1) := by decide +kernel
theorem dX6_shares_51 : decode cX6_shares 51 = .ok (.iastore, 1) := by decide +kernel
theorem dX6_shares_52 : decode cX6_shares 52 = .ok (.aload_n 0, 1) := by decide +kernel
theorem dX6_shares_53 : decode cX6_shares 53 = .ok (.getfield 13, 3) := by decide +kernel
theorem dX6_shares_56 : decode cX6_shares 56 = .ok (.iconst 2, 1) := by decide +kernel
theorem dX6_shares_57 : decode cX6_shares 57 = .ok (.iload_n 3, 1) := by decide +kernel
theorem dX6_shares_58 : decode cX6_shares 58 = .ok (.iastore, 1) := by decide +kernel
theorem dX6_shares_59 : decode cX6_shares 59 = .ok (.iconst 1, 1) := by decide +kernel
theorem dX6_shares_60 : decode cX6_shares 60 = .ok (.ireturn, 1) := by decide +kernel
set_option maxRecDepth 20000 in
theorem ggX6_season_X6_in : GoodIn wsX6_season wsX6_in := goodIn_r _ [7] (by decide +kernel) (by decide +kernel)
set_option maxRecDepth 20000 in
theorem gX6_season_X6_in : GoodIn wsX6_season (va_wsS RX6 60 yX6_in wsX6_in) := goodIn_app (goodIn_of _ (by decide +kernel)) ggX6_season_X6_in
theorem dX6_season_0 : decode cX6_season 0 = .ok (.aload_n 0, 1) := by decide +kernel
theorem dX6_season_1 : decode cX6_season 1 = .ok (.iconst 0, 1) := by decide +kernel
theorem dX6_season_2 : decode cX6_season 2 = .ok (.putfield 57, 3) := by decide +kernel
theorem dX6_season_5 : decode cX6_season 5 = .ok (.iload_n 1, 1) := by decide +kernel
theorem dX6_season_6 : decode cX6_season 6 = .ok (.iconst 1, 1) := by decide +kernel
theorem dX6_season_7 : decode cX6_season 7 = .ok (.bipush 12, 2) := by decide +kernel
theorem dX6_season_9 : decode cX6_season 9 = .ok (.invokestatic 60, 3) := by decide +kernel
theorem dX6_season_12 : decode cX6_season 12 = .ok (.ifCond .ne 5, 3) := by decide +kernel
theorem dX6_season_15 : decode cX6_season 15 = .ok (.iconst (-1), 1) := by decide +kernel
theorem dX6_season_16 : decode cX6_season 16 = .ok (.ireturn, 1) := by decide +kernel
theorem dX6_season_17 : decode cX6_season 17 = .ok (.iconst 1, 1) := by decide +kernel
theorem dX6_season_18 : decode cX6_season 18 = .ok (.istore_n 3, 1) := by decide +kernel
theorem dX6_season_19 : decode cX6_season 19 = .ok (.iconst 0, 1) := by decide +kernel
theorem dX6_season_20 : decode cX6_season 20 = .ok (.istore 4, 2) := by decide +kernel
theorem dX6_season_22 : decode cX6_season 22 = .ok (.iload 4, 2) := by decide +kernel
theorem dX6_season_24 : decode cX6_season 24 = .ok (.iload_n 1, 1) := by decide +kernel
theorem dX6_season_25 : decode cX6_season 25 = .ok (.if_icmp .ge 13, 3) := by decide +kernel
theorem dX6_season_28 : decode cX6_season 28 = .ok (.iload_n 3, 1) := by decide +kernel
theorem dX6_season_29 : decode cX6_season 29 = .ok (.iconst 3, 1) := by decide +kernel
theorem dX6_season_30 : decode cX6_season 30 = .ok (.imul, 1) := by decide +kernel
theorem dX6_season_31 : decode cX6_season 31 = .ok (.istore_n 3, 1) := by decide +kernel
theorem dX6_season_32 : decode cX6_season 32 = .ok (.iinc 4 1, 3) := by decide +kernel
theorem dX6_season_35 : decode cX6_season 35 = .ok (.goto (-13), 3) := by decide +kernel
theorem dX6_season_38 : decode cX6_season 38 = .ok (.iload_n 2, 1) := by decide +kernel
theorem dX6_season_39 : decode cX6_season 39 = .ok (.iconst 0, 1) := by decide +kernel
theorem dX6_season_40 : decode cX6_season 40 = .ok (.iload_n 3, 1) := by decide +kernel
theorem dX6_season_41 : decode cX6_season 41 = .ok (.iconst 1, 1) := by decide +kernel
theorem dX6_season_42 : decode cX6_season 42 = .ok (.isub, 1) := by decide +kernel
theorem dX6_season_43 : decode cX6_season 43 = .ok (.invokestatic 60, 3) := by decide +kernel
theorem dX6_season_46 : decode cX6_season 46 = .ok (.ifCond .ne 5, 3) := by decide +kernel
theorem dX6_season_49 : decode cX6_season 49 = .ok (.iconst (-1), 1) := by decide +kernel
theorem dX6_season_50 : decode cX6_season 50 = .ok (.ireturn, 1) := by decide +kernel
theorem dX6_season_51 : decode cX6_season 51 = .ok (.aload_n 0, 1) := by decide +kernel
theorem dX6_season_52 : decode cX6_season 52 = .ok (.iload_n 1, 1) := by decide +kernel
theorem dX6_season_53 : decode cX6_season 53 = .ok (.putfield 16, 3) := by decide +kernel
theorem dX6_season_56 : decode cX6_season 56 = .ok (.iload_n 2, 1) := by decide +kernel
theorem dX6_season_57 : decode cX6_season 57 = .ok (.istore 4, 2) := by decide +kernel
theorem dX6_season_59 : decode cX6_season 59 = .ok (.iconst 0, 1) := by decide +kernel
theorem dX6_season_60 : decode cX6_season 60 = .ok (.istore 5, 2) := by decide +kernel
theorem dX6_season_62 : decode cX6_season 62 = .ok (.iload 5, 2) := by decide +kernel
theorem dX6_season_64 : decode cX6_season 64 = .ok (.iload_n 1, 1) := by decide +kernel
theorem dX6_season_65 : decode cX6_season 65 = .ok (.if_icmp .ge 26, 3) := by decide +kernel
theorem dX6_season_68 : decode cX6_season 68 = .ok (.aload_n 0, 1) := by decide +kernel
theorem dX6_season_69 : decode cX6_season 69 = .ok (.getfield 20, 3) := by decide +kernel
theorem dX6_season_72 : decode cX6_season 72 = .ok (.iload 5, 2) := by decide +kernel
theorem dX6_season_74 : decode cX6_season 74 = .ok (.iload 4, 2) := by decide +kernel
theorem dX6_season_76 : decode cX6_season 76 = .ok (.iconst 3, 1) := by decide +kernel
theorem dX6_season_77 : decode cX6_season 77 = .ok (.irem, 1) := by decide +kernel
theorem dX6_season_78 : decode cX6_season 78 = .ok (.iastore, 1) := by decide +kernel
theorem dX6_season_79 : decode cX6_season 79 = .ok (.iload 4, 2) := by decide +kernel
theorem dX6_season_81 : decode cX6_season 81 = .ok (.iconst 3, 1) := by decide +kernel
theorem dX6_season_82 : decode cX6_season 82 = .ok (.idiv, 1) := by decide +kernel
theorem dX6_season_83 : decode cX6_season 83 = .ok (.istore 4, 2) := by decide +kernel
theorem dX6_season_85 : decode cX6_season 85 = .ok (.iinc 5 1, 3) := by decide +kernel
theorem dX6_season_88 : decode cX6_season 88 = .ok (.goto (-26), 3) := by decide +kernel
theorem dX6_season_91 : decode cX6_season 91 = .ok (.iload_n 1, 1) := by decide +kernel
theorem dX6_season_92 : decode cX6_season 92 = .ok (.ireturn, 1) := by decide +kernel
theorem dX6_shareOf_0 : decode cX6_shareOf 0 = .ok (.aload_n 0, 1) := by decide +kernel
theorem dX6_shareOf_1 : decode cX6_shareOf 1 = .ok (.getfield 13, 3) := by decide +kernel
theorem dX6_shareOf_4 : decode cX6_shareOf 4 = .ok (.aload_n 0, 1) := by decide +kernel
theorem dX6_shareOf_5 : decode cX6_shareOf 5 = .ok (.getfield 20, 3) := by decide +kernel
theorem dX6_shareOf_8 : decode cX6_shareOf 8 = .ok (.iload_n 1, 1) := by decide +kernel
theorem dX6_shareOf_9 : decode cX6_shareOf 9 = .ok (.aload_n 0, 1) := by decide +kernel
theorem dX6_shareOf_10 : decode cX6_shareOf 10 = .ok (.getfield 16, 3) := by decide +kernel
theorem dX6_shareOf_13 : decode cX6_shareOf 13 = .ok (.irem, 1) := by decide +kernel
theorem dX6_shareOf_14 : decode cX6_shareOf 14 = .ok (.iaload, 1) := by decide +kernel
theorem dX6_shareOf_15 : decode cX6_shareOf 15 = .ok (.iaload, 1) := by decide +kernel
theorem dX6_shareOf_16 : decode cX6_shareOf 16 = .ok (.ireturn, 1) := by decide +kernel
set_option maxRecDepth 20000 in
theorem ggX6_isDay_X6_in : GoodIn wsX6_isDay wsX6_in := goodIn_r _ [4] (by decide +kernel) (by decide +kernel)
set_option maxRecDepth 20000 in
theorem gX6_isDay_X6_in : GoodIn wsX6_isDay (va_wsS RX6 60 yX6_in wsX6_in) := goodIn_app (goodIn_of _ (by decide +kernel)) ggX6_isDay_X6_in
theorem dX6_isDay_0 : decode cX6_isDay 0 = .ok (.iload_n 0, 1) := by decide +kernel
theorem dX6_isDay_1 : decode cX6_isDay 1 = .ok (.iconst 0, 1) := by decide +kernel
theorem dX6_isDay_2 : decode cX6_isDay 2 = .ok (.sipush 399, 3) := by decide +kernel
theorem dX6_isDay_5 : decode cX6_isDay 5 = .ok (.invokestatic 60, 3) := by decide +kernel
theorem dX6_isDay_8 : decode cX6_isDay 8 = .ok (.ireturn, 1) := by decide +kernel
set_option maxRecDepth 20000 in
theorem ggX6_share_X6_isDay : GoodIn wsX6_share wsX6_isDay := goodIn_r _ [5, 6, 7, 4, 8] (by decide +kernel) (by decide +kernel)
set_option maxRecDepth 20000 in
theorem gX6_share_X6_isDay : GoodIn wsX6_share (va_wsS RX6 64 yX6_isDay wsX6_isDay) := goodIn_app (goodIn_of _ (by decide +kernel)) ggX6_share_X6_isDay
set_option maxRecDepth 20000 in
theorem ggX6_share_X6_shareOf : GoodIn wsX6_share wsX6_shareOf := goodIn_r _ [12, 13, 14, 15, 16, 17, 18, 19, 20, 21, 22, 23, 24, 25, 26, 27, 28, 29, 30, 31, 32, 33, 34] (by decide +kernel) (by decide +kernel)
set_option maxRecDepth 20000 in
theorem gX6_share_X6_shareOf : GoodIn wsX6_share (wsV RX6 68 RX6 yX6_shareOf wsX6_shareOf) := goodIn_app (goodIn_of _ (by decide +kernel)) ggX6_share_X6_shareOf
theorem dX6_share_0 : decode cX6_share 0 = .ok (.aload_n 0, 1) := by decide +kernel
theorem dX6_share_1 : decode cX6_share 1 = .ok (.iconst 0, 1) := by decide +kernel
theorem dX6_share_2 : decode cX6_share 2 = .ok (.putfield 57, 3) := by decide +kernel
theorem dX6_share_5 : decode cX6_share 5 = .ok (.iload_n 1, 1) := by decide +kernel
theorem dX6_share_6 : decode cX6_share 6 = .ok (.invokestatic 64, 3) := by decide +kernel
theorem dX6_share_9 : decode cX6_share 9 = .ok (.ifCond .eq 11, 3) := by decide +kernel
theorem dX6_share_12 : decode cX6_share 12 = .ok (.aload_n 0, 1) := by decide +kernel
theorem dX6_share_13 : decode cX6_share 13 = .ok (.iload_n 1, 1) := by decide +kernel
theorem dX6_share_14 : decode cX6_share 14 = .ok (.invokevirtual 68, 3) := by decide +kernel
theorem dX6_share_17 : decode cX6_share 17 = .ok (.goto 4, 3) := by decide +kernel
theorem dX6_share_20 : decode cX6_share 20 = .ok (.iconst (-1), 1) := by decide +kernel
theorem dX6_share_21 : decode cX6_share 21 = .ok (.ireturn, 1) := by decide +kernel
set_option maxRecDepth 20000 in
theorem ggX6_isDuty_X6_in : GoodIn wsX6_isDuty wsX6_in := goodIn_r _ [5] (by decide +kernel) (by decide +kernel)
set_option maxRecDepth 20000 in
theorem gX6_isDuty_X6_in : GoodIn wsX6_isDuty (va_wsS RX6 60 yX6_in wsX6_in) := goodIn_app (goodIn_of _ (by decide +kernel)) ggX6_isDuty_X6_in
theorem dX6_isDuty_0 : decode cX6_isDuty 0 = .ok (.iload_n 1, 1) := by decide +kernel
theorem dX6_isDuty_1 : decode cX6_isDuty 1 = .ok (.iconst 0, 1) := by decide +kernel
theorem dX6_isDuty_2 : decode cX6_isDuty 2 = .ok (.aload_n 0, 1) := by decide +kernel
theorem dX6_isDuty_3 : decode cX6_isDuty 3 = .ok (.getfield 72, 3) := by decide +kernel
theorem dX6_isDuty_6 : decode cX6_isDuty 6 = .ok (.iconst 1, 1) := by decide +kernel
theorem dX6_isDuty_7 : decode cX6_isDuty 7 = .ok (.isub, 1) := by decide +kernel
theorem dX6_isDuty_8 : decode cX6_isDuty 8 = .ok (.invokestatic 60, 3) := by decide +kernel
theorem dX6_isDuty_11 : decode cX6_isDuty 11 = .ok (.ireturn, 1) := by decide +kernel
set_option maxRecDepth 20000 in
theorem ggX6_duty_X6_in : GoodIn wsX6_duty wsX6_in := goodIn_r _ [13] (by decide +kernel) (by decide +kernel)
set_option maxRecDepth 20000 in
theorem gX6_duty_X6_in : GoodIn wsX6_duty (va_wsS RX6 60 yX6_in wsX6_in) := goodIn_app (goodIn_of _ (by decide +kernel)) ggX6_duty_X6_in
theorem dX6_duty_0 : decode cX6_duty 0 = .ok (.aload_n 0, 1) := by decide +kernel
theorem dX6_duty_1 : decode cX6_duty 1 = .ok (.iconst 0, 1) := by decide +kernel
theorem dX6_duty_2 : decode cX6_duty 2 = .ok (.putfield 57, 3) := by decide +kernel
theorem dX6_duty_5 : decode cX6_duty 5 = .ok (.iload_n 1, 1) := by decide +kernel
theorem dX6_duty_6 : decode cX6_duty 6 = .ok (.iconst 0, 1) := by decide +kernel
theorem dX6_duty_7 : decode cX6_duty 7 = .ok (.iconst 2, 1) := by decide +kernel
theorem dX6_duty_8 : decode cX6_duty 8 = .ok (.invokestatic 60, 3) := by decide +kernel
theorem dX6_duty_11 : decode cX6_duty 11 = .ok (.ifCond .eq 64, 3) := by decide +kernel
theorem dX6_duty_14 : decode cX6_duty 14 = .ok (.iload_n 2, 1) := by decide +kernel
theorem dX6_duty_15 : decode cX6_duty 15 = .ok (.iconst 1, 1) := by decide +kernel
theorem dX6_duty_16 : decode cX6_duty 16 = .ok (.bipush 100, 2) := by decide +kernel
theorem dX6_duty_18 : decode cX6_duty 18 = .ok (.invokestatic 60, 3) := by decide +kernel
theorem dX6_duty_21 : decode cX6_duty 21 = .ok (.ifCond .eq 54, 3) := by decide +kernel
theorem dX6_duty_24 : decode cX6_duty 24 = .ok (.iload_n 3, 1) := by decide +kernel
theorem dX6_duty_25 : decode cX6_duty 25 = .ok (.iconst 1, 1) := by decide +kernel
theorem dX6_duty_26 : decode cX6_duty 26 = .ok (.bipush 20, 2) := by decide +kernel
theorem dX6_duty_28 : decode cX6_duty 28 = .ok (.invokestatic 60, 3) := by decide +kernel
theorem dX6_duty_31 : decode cX6_duty 31 = .ok (.ifCond .eq 44, 3) := by decide +kernel
theorem dX6_duty_34 : decode cX6_duty 34 = .ok (.iload_n 1, 1) := by decide +kernel
theorem dX6_duty_35 : decode cX6_duty 35 = .ok (.ifCond .le 14, 3) := by decide +kernel
theorem dX6_duty_38 : decode cX6_duty 38 = .ok (.iload 4, 2) := by decide +kernel
theorem dX6_duty_40 : decode cX6_duty 40 = .ok (.iconst 0, 1) := by decide +kernel
theorem dX6_duty_41 : decode cX6_duty 41 = .ok (.bipush 100, 2) := by decide +kernel
theorem dX6_duty_43 : decode cX6_duty 43 = .ok (.invokestatic 60, 3) := by decide +kernel
theorem dX6_duty_46 : decode cX6_duty 46 = .ok (.ifCond .eq 29, 3) := by decide +kernel
theorem dX6_duty_49 : decode cX6_duty 49 = .ok (.iload_n 1, 1) := by decide +kernel
theorem dX6_duty_50 : decode cX6_duty 50 = .ok (.iconst 2, 1) := by decide +kernel
theorem dX6_duty_51 : decode cX6_duty 51 = .ok (.if_icmp .ne 13, 3) := by decide +kernel
theorem dX6_duty_54 : decode cX6_duty 54 = .ok (.iload 5, 2) := by decide +kernel
theorem dX6_duty_56 : decode cX6_duty 56 = .ok (.iconst 1, 1) := by decide +kernel
theorem dX6_duty_57 : decode cX6_duty 57 = .ok (.iconst 5, 1) := by decide +kernel
theorem dX6_duty_58 : decode cX6_duty 58 = .ok (.invokestatic 60, 3) := by decide +kernel
theorem dX6_duty_61 : decode cX6_duty 61 = .ok (.ifCond .eq 14, 3) := by decide +kernel
theorem dX6_duty_64 : decode cX6_duty 64 = .ok (.iload 6, 2) := by decide +kernel
theorem dX6_duty_66 : decode cX6_duty 66 = .ok (.iconst 0, 1) := by decide +kernel
theorem dX6_duty_67 : decode cX6_duty 67 = .ok (.bipush 100, 2) := by decide +kernel
theorem dX6_duty_69 : decode cX6_duty 69 = .ok (.invokestatic 60, 3) := by decide +kernel
theorem dX6_duty_72 : decode cX6_duty 72 = .ok (.ifCond .ne 5, 3) := by decide +kernel
theorem dX6_duty_75 : decode cX6_duty 75 = .ok (.iconst (-1), 1) := by decide +kernel
theorem dX6_duty_76 : decode cX6_duty 76 = .ok (.ireturn, 1) := by decide +kernel
theorem dX6_duty_77 : decode cX6_duty 77 = .ok (.aload_n 0, 1) := by decide +kernel
theorem dX6_duty_78 : decode cX6_duty 78 = .ok (.getfield 72, 3) := by decide +kernel
theorem dX6_duty_81 : decode cX6_duty 81 = .ok (.bipush 8, 2) := by decide +kernel
theorem dX6_duty_83 : decode cX6_duty 83 = .ok (.if_icmp .ne 6, 3) := by decide +kernel
theorem dX6_duty_86 : decode cX6_duty 86 = .ok (.bipush (-3), 2) := by decide +kernel
theorem dX6_duty_88 : decode cX6_duty 88 = .ok (.ireturn, 1) := by decide +kernel
theorem dX6_duty_89 : decode cX6_duty 89 = .ok (.aload_n 0, 1) := by decide +kernel
theorem dX6_duty_90 : decode cX6_duty 90 = .ok (.getfield 23, 3) := by decide +kernel
theorem dX6_duty_93 : decode cX6_duty 93 = .ok (.aload_n 0, 1) := by decide +kernel
theorem dX6_duty_94 : decode cX6_duty 94 = .ok (.getfield 72, 3) := by decide +kernel
theorem dX6_duty_97 : decode cX6_duty 97 = .ok (.iload_n 1, 1) := by decide +kernel
theorem dX6_duty_98 : decode cX6_duty 98 = .ok (.iastore, 1) := by decide +kernel
theorem dX6_duty_99 : decode cX6_duty 99 = .ok (.aload_n 0, 1) := by decide +kernel
theorem dX6_duty_100 : decode cX6_duty 100 = .ok (.getfield 26, 3) := by decide +kernel
theorem dX6_duty_103 : decode cX6_duty 103 = .ok (.aload_n 0, 1) := by decide +kernel
theorem dX6_duty_104 : decode cX6_duty 104 = .ok (.getfield 72, 3) := by decide +kernel
theorem dX6_duty_107 : decode cX6_duty 107 = .ok (.iload_n 2, 1) := by decide +kernel
theorem dX6_duty_108 : decode cX6_duty 108 = .ok (.iastore, 1) := by decide +kernel
theorem dX6_duty_109 : decode cX6_duty 109 = .ok (.aload_n 0, 1) := by decide +kernel
theorem dX6_duty_110 : decode cX6_duty 110 = .ok (.getfield 29, 3) := by decide +kernel
theorem dX6_duty_113 : decode cX6_duty 113 = .ok (.aload_n 0, 1) := by decide +kernel
theorem dX6_duty_114 : decode cX6_duty 114 = .ok (.getfield 72, 3) := by decide +kernel
theorem dX6_duty_117 : decode cX6_duty 117 = .ok (.iload_n 3, 1) := by decide +kernel
theorem dX6_duty_118 : decode cX6_duty 118 = .ok (.iastore, 1) := by decide +kernel
theorem dX6_duty_119 : decode cX6_duty 119 = .ok (.aload_n 0, 1) := by decide +kernel
theorem dX6_duty_120 : decode cX6_duty 120 = .ok (.getfield 32, 3) := by decide +kernel
theorem dX6_duty_123 : decode cX6_duty 123 = .ok (.aload_n 0, 1) := by decide +kernel
theorem dX6_duty_124 : decode cX6_duty 124 = .ok (.getfield 72, 3) := by decide +kernel
theorem dX6_duty_127 : decode cX6_duty 127 = .ok (.iload_n 1, 1) := by decide +kernel
theorem dX6_duty_128 : decode cX6_duty 128 = .ok (.ifCond .le 8, 3) := by decide +kernel
theorem dX6_duty_131 : decode cX6_duty 131 = .ok (.iload 4, 2) := by decide +kernel
theorem dX6_duty_133 : decode cX6_duty 133 = .ok (.goto 4, 3) := by decide +kernel
theorem dX6_duty_136 : decode cX6_duty 136 = .ok (.iconst 0, 1) := by decide +kernel
theorem dX6_duty_137 : decode cX6_duty 137 = .ok (.iastore, 1) := by decide +kernel
theorem dX6_duty_138 : decode cX6_duty 138 = .ok (.aload_n 0, 1) := by decide +kernel
theorem dX6_duty_139 : decode cX6_duty 139 = .ok (.getfield 35, 3) := by decide +kernel
theorem dX6_duty_142 : decode cX6_duty 142 = .ok (.aload_n 0, 1) := by decide +kernel
theorem dX6_duty_143 : decode cX6_duty 143 = .ok (.getfield 72, 3) := by decide +kernel
theorem dX6_duty_146 : decode cX6_duty 146 = .ok (.iload_n 1, 1) := by decide +kernel
theorem dX6_duty_147 : decode cX6_duty 147 = .ok (.iconst 2, 1) := by decide +kernel
theorem dX6_duty_148 : decode cX6_duty 148 = .ok (.if_icmp .ne 8, 3) := by decide +kernel
theorem dX6_duty_151 : decode cX6_duty 151 = .ok (.iload 5, 2) := by decide +kernel
theorem dX6_duty_153 : decode cX6_duty 153 = .ok (.goto 4, 3) := by decide +kernel
theorem dX6_duty_156 : decode cX6_duty 156 = .ok (.iconst 1, 1) := by decide +kernel
theorem dX6_duty_157 : decode cX6_duty 157 = .ok (.iastore, 1) := by decide +kernel
theorem dX6_duty_158 : decode cX6_duty 158 = .ok (.aload_n 0, 1) := by decide +kernel
theorem dX6_duty_159 : decode cX6_duty 159 = .ok (.getfield 38, 3) := by decide +kernel
theorem dX6_duty_162 : decode cX6_duty 162 = .ok (.aload_n 0, 1) := by decide +kernel
theorem dX6_duty_163 : decode cX6_duty 163 = .ok (.getfield 72, 3) := by decide +kernel
theorem dX6_duty_166 : decode cX6_duty 166 = .ok (.iload 6, 2) := by decide +kernel
theorem dX6_duty_168 : decode cX6_duty 168 = .ok (.iastore, 1) := by decide +kernel
theorem dX6_duty_169 : decode cX6_duty 169 = .ok (.aload_n 0, 1) := by decide +kernel
theorem dX6_duty_170 : decode cX6_duty 170 = .ok (.getfield 41, 3) := by decide +kernel
theorem dX6_duty_173 : decode cX6_duty 173 = .ok (.aload_n 0, 1) := by decide +kernel
theorem dX6_duty_174 : decode cX6_duty 174 = .ok (.getfield 72, 3) := by decide +kernel
theorem dX6_duty_177 : decode cX6_duty 177 = .ok (.iconst 1, 1) := by decide +kernel
theorem dX6_duty_178 : decode cX6_duty 178 = .ok (.bastore, 1) := by decide +kernel
theorem dX6_duty_179 : decode cX6_duty 179 = .ok (.aload_n 0, 1) := by decide +kernel
theorem dX6_duty_180 : decode cX6_duty 180 = .ok (.dup, 1) := by decide +kernel
theorem dX6_duty_181 : decode cX6_duty 181 = .ok (.getfield 72, 3) := by decide +kernel
theorem dX6_duty_184 : decode cX6_duty 184 = .ok (.iconst 1, 1) := by decide +kernel
theorem dX6_duty_185 : decode cX6_duty 185 = .ok (.iadd, 1) := by decide +kernel
theorem dX6_duty_186 : decode cX6_duty 186 = .ok (.putfield 72, 3) := by decide +kernel
theorem dX6_duty_189 : decode cX6_duty 189 = .ok (.aload_n 0, 1) := by decide +kernel
theorem dX6_duty_190 : decode cX6_duty 190 = .ok (.getfield 72, 3) := by decide +kernel
theorem dX6_duty_193 : decode cX6_duty 193 = .ok (.iconst 1, 1) := by decide +kernel
theorem dX6_duty_194 : decode cX6_duty 194 = .ok (.isub, 1) := by decide +kernel
theorem dX6_duty_195 : decode cX6_duty 195 = .ok (.ireturn, 1) := by decide +kernel
set_option maxRecDepth 20000 in
theorem ggX6_on_X6_isDuty : GoodIn wsX6_on wsX6_isDuty := goodIn_r _ [7, 8, 9, 10, 6, 11, 12, 13, 14, 15, 16, 17, 18, 19, 20, 21, 22, 23, 24, 25, 26, 27, 28, 29, 30] (by decide +kernel) (by decide +kernel)
set_option maxRecDepth 20000 in
theorem gX6_on_X6_isDuty : GoodIn wsX6_on (wsV RX6 75 RX6 yX6_isDuty wsX6_isDuty) := goodIn_app (goodIn_of _ (by decide +kernel)) ggX6_on_X6_isDuty
theorem dX6_on_0 : decode cX6_on 0 = .ok (.aload_n 0, 1) := by decide +kernel
theorem dX6_on_1 : decode cX6_on 1 = .ok (.iconst 0, 1) := by decide +kernel
theorem dX6_on_2 : decode cX6_on 2 = .ok (.putfield 57, 3) := by decide +kernel
theorem dX6_on_5 : decode cX6_on 5 = .ok (.aload_n 0, 1) := by decide +kernel
theorem dX6_on_6 : decode cX6_on 6 = .ok (.iload_n 1, 1) := by decide +kernel
theorem dX6_on_7 : decode cX6_on 7 = .ok (.invokevirtual 75, 3) := by decide +kernel
theorem dX6_on_10 : decode cX6_on 10 = .ok (.ifCond .ne 5, 3) := by decide +kernel
theorem dX6_on_13 : decode cX6_on 13 = .ok (.iconst (-1), 1) := by decide +kernel
theorem dX6_on_14 : decode cX6_on 14 = .ok (.ireturn, 1) := by decide +kernel
theorem dX6_on_15 : decode cX6_on 15 = .ok (.aload_n 0, 1) := by decide +kernel
theorem dX6_on_16 : decode cX6_on 16 = .ok (.getfield 41, 3) := by decide +kernel
theorem dX6_on_19 : decode cX6_on 19 = .ok (.iload_n 1, 1) := by decide +kernel
theorem dX6_on_20 : decode cX6_on 20 = .ok (.baload, 1) := by decide +kernel
theorem dX6_on_21 : decode cX6_on 21 = .ok (.ifCond .eq 7, 3) := by decide +kernel
theorem dX6_on_24 : decode cX6_on 24 = .ok (.iconst 1, 1) := by decide +kernel
theorem dX6_on_25 : decode cX6_on 25 = .ok (.goto 4, 3) := by decide +kernel
theorem dX6_on_28 : decode cX6_on 28 = .ok (.iconst 0, 1) := by decide +kernel
theorem dX6_on_29 : decode cX6_on 29 = .ok (.istore_n 3, 1) := by decide +kernel
theorem dX6_on_30 : decode cX6_on 30 = .ok (.aload_n 0, 1) := by decide +kernel
theorem dX6_on_31 : decode cX6_on 31 = .ok (.getfield 41, 3) := by decide +kernel
theorem dX6_on_34 : decode cX6_on 34 = .ok (.iload_n 1, 1) := by decide +kernel
theorem dX6_on_35 : decode cX6_on 35 = .ok (.iload_n 2, 1) := by decide +kernel
theorem dX6_on_36 : decode cX6_on 36 = .ok (.bastore, 1) := by decide +kernel
theorem dX6_on_37 : decode cX6_on 37 = .ok (.iload_n 3, 1) := by decide +kernel
theorem dX6_on_38 : decode cX6_on 38 = .ok (.ireturn, 1) := by decide +kernel
theorem dX6_drop_0 : decode cX6_drop 0 = .ok (.aload_n 0, 1) := by decide +kernel
theorem dX6_drop_1 : decode cX6_drop 1 = .ok (.iconst 0, 1) := by decide +kernel
theorem dX6_drop_2 : decode cX6_drop 2 = .ok (.putfield 57, 3) := by decide +kernel
theorem dX6_drop_5 : decode cX6_drop 5 = .ok (.aload_n 0, 1) := by decide +kernel
theorem dX6_drop_6 : decode cX6_drop 6 = .ok (.getfield 72, 3) := by decide +kernel
theorem dX6_drop_9 : decode cX6_drop 9 = .ok (.ifCond .ne 6, 3) := by decide +kernel
theorem dX6_drop_12 : decode cX6_drop 12 = .ok (.bipush (-2), 2) := by decide +kernel
theorem dX6_drop_14 : decode cX6_drop 14 = .ok (.ireturn, 1) := by decide +kernel
theorem dX6_drop_15 : decode cX6_drop 15 = .ok (.aload_n 0, 1) := by decide +kernel
theorem dX6_drop_16 : decode cX6_drop 16 = .ok (.dup, 1) := by decide +kernel
theorem dX6_drop_17 : decode cX6_drop 17 = .ok (.getfield 72, 3) := by decide +kernel
theorem dX6_drop_20 : decode cX6_drop 20 = .ok (.iconst 1, 1) := by decide +kernel
theorem dX6_drop_21 : decode cX6_drop 21 = .ok (.isub, 1) := by decide +kernel
theorem dX6_drop_22 : decode cX6_drop 22 = .ok (.putfield 72, 3) := by decide +kernel
theorem dX6_drop_25 : decode cX6_drop 25 = .ok (.aload_n 0, 1) := by decide +kernel
theorem dX6_drop_26 : decode cX6_drop 26 = .ok (.getfield 72, 3) := by decide +kernel
theorem dX6_drop_29 : decode cX6_drop 29 = .ok (.ireturn, 1) := by decide +kernel
theorem dX6_drainOf_0 : decode cX6_drainOf 0 = .ok (.aload_n 0, 1) := by decide +kernel
theorem dX6_drainOf_1 : decode cX6_drainOf 1 = .ok (.getfield 26, 3) := by decide +kernel
theorem dX6_drainOf_4 : decode cX6_drainOf 4 = .ok (.iload_n 1, 1) := by decide +kernel
theorem dX6_drainOf_5 : decode cX6_drainOf 5 = .ok (.iaload, 1) := by decide +kernel
theorem dX6_drainOf_6 : decode cX6_drainOf 6 = .ok (.aload_n 0, 1) := by decide +kernel
theorem dX6_drainOf_7 : decode cX6_drainOf 7 = .ok (.getfield 29, 3) := by decide +kernel
theorem dX6_drainOf_10 : decode cX6_drainOf 10 = .ok (.iload_n 1, 1) := by decide +kernel
theorem dX6_drainOf_11 : decode cX6_drainOf 11 = .ok (.iaload, 1) := by decide +kernel
theorem dX6_drainOf_12 : decode cX6_drainOf 12 = .ok (.imul, 1) := by decide +kernel
theorem dX6_drainOf_13 : decode cX6_drainOf 13 = .ok (.istore_n 3, 1) := by decide +kernel
theorem dX6_drainOf_14 : decode cX6_drainOf 14 = .ok (.aload_n 0, 1) := by decide +kernel
theorem dX6_drainOf_15 : decode cX6_drainOf 15 = .ok (.getfield 23, 3) := by decide +kernel
theorem dX6_drainOf_18 : decode cX6_drainOf 18 = .ok (.iload_n 1, 1) := by decide +kernel
theorem dX6_drainOf_19 : decode cX6_drainOf 19 = .ok (.iaload, 1) := by decide +kernel
theorem dX6_drainOf_20 : decode cX6_drainOf 20 = .ok (.ifCond .le 47, 3) := by decide +kernel
theorem dX6_drainOf_23 : decode cX6_drainOf 23 = .ok (.iload_n 3, 1) := by decide +kernel
theorem dX6_drainOf_24 : decode cX6_drainOf 24 = .ok (.aload_n 0, 1) := by decide +kernel
theorem dX6_drainOf_25 : decode cX6_drainOf 25 = .ok (.getfield 32, 3) := by decide +kernel
theorem dX6_drainOf_28 : decode cX6_drainOf 28 = .ok (.iload_n 1, 1) := by decide +kernel
theorem dX6_drainOf_29 : decode cX6_drainOf 29 = .ok (.iaload, 1) := by decide +kernel
theorem dX6_drainOf_30 : decode cX6_drainOf 30 = .ok (.iadd, 1) := by decide +kernel
theorem dX6_drainOf_31 : decode cX6_drainOf 31 = .ok (.istore_n 3, 1) := by decide +kernel
theorem dX6_drainOf_32 : decode cX6_drainOf 32 = .ok (.iload_n 3, 1) := by decide +kernel
theorem dX6_drainOf_33 : decode cX6_drainOf 33 = .ok (.aload_n 0, 1) := by decide +kernel
theorem dX6_drainOf_34 : decode cX6_drainOf 34 = .ok (.getfield 32, 3) := by decide +kernel
theorem dX6_drainOf_37 : decode cX6_drainOf 37 = .ok (.iload_n 1, 1) := by decide +kernel
theorem dX6_drainOf_38 : decode cX6_drainOf 38 = .ok (.iaload, 1) := by decide +kernel
theorem dX6_drainOf_39 : decode cX6_drainOf 39 = .ok (.aload_n 0, 1) := by decide +kernel
theorem dX6_drainOf_40 : decode cX6_drainOf 40 = .ok (.getfield 7, 3) := by decide +kernel
theorem dX6_drainOf_43 : decode cX6_drainOf 43 = .ok (.iconst 2, 1) := by decide +kernel
theorem dX6_drainOf_44 : decode cX6_drainOf 44 = .ok (.iaload, 1) := by decide +kernel
theorem dX6_drainOf_45 : decode cX6_drainOf 45 = .ok (.if_icmp .le 19, 3) := by decide +kernel
theorem dX6_drainOf_48 : decode cX6_drainOf 48 = .ok (.aload_n 0, 1) := by decide +kernel
theorem dX6_drainOf_49 : decode cX6_drainOf 49 = .ok (.getfield 32, 3) := by decide +kernel
theorem dX6_drainOf_52 : decode cX6_drainOf 52 = .ok (.iload_n 1, 1) := by decide +kernel
theorem dX6_drainOf_53 : decode cX6_drainOf 53 = .ok (.iaload, 1) := by decide +kernel
theorem dX6_drainOf_54 : decode cX6_drainOf 54 = .ok (.aload_n 0, 1) := by decide +kernel
theorem dX6_drainOf_55 : decode cX6_drainOf 55 = .ok (.getfield 7, 3) := by decide +kernel
theorem dX6_drainOf_58 : decode cX6_drainOf 58 = .ok (.iconst 2, 1) := by decide +kernel
theorem dX6_drainOf_59 : decode cX6_drainOf 59 = .ok (.iaload, 1) := by decide +kernel
theorem dX6_drainOf_60 : decode cX6_drainOf 60 = .ok (.isub, 1) := by decide +kernel
theorem dX6_drainOf_61 : decode cX6_drainOf 61 = .ok (.goto 4, 3) := by decide +kernel
theorem dX6_drainOf_64 : decode cX6_drainOf 64 = .ok (.iconst 0, 1) := by decide +kernel
theorem dX6_drainOf_65 : decode cX6_drainOf 65 = .ok (.iadd, 1) := by decide +kernel
theorem dX6_drainOf_66 : decode cX6_drainOf 66 = .ok (.istore_n 3, 1) := by decide +kernel
theorem dX6_drainOf_67 : decode cX6_drainOf 67 = .ok (.iload_n 3, 1) := by decide +kernel
theorem dX6_drainOf_68 : decode cX6_drainOf 68 = .ok (.iload_n 2, 1) := by decide +kernel
theorem dX6_drainOf_69 : decode cX6_drainOf 69 = .ok (.aload_n 0, 1) := by decide +kernel
theorem dX6_drainOf_70 : decode cX6_drainOf 70 = .ok (.getfield 35, 3) := by decide +kernel
theorem dX6_drainOf_73 : decode cX6_drainOf 73 = .ok (.iload_n 1, 1) := by decide +kernel
theorem dX6_drainOf_74 : decode cX6_drainOf 74 = .ok (.iaload, 1) := by decide +kernel
theorem dX6_drainOf_75 : decode cX6_drainOf 75 = .ok (.if_icmp .ge 7, 3) := by decide +kernel
theorem dX6_drainOf_78 : decode cX6_drainOf 78 = .ok (.iload_n 2, 1) := by decide +kernel
theorem dX6_drainOf_79 : decode cX6_drainOf 79 = .ok (.goto 9, 3) := by decide +kernel
theorem dX6_drainOf_82 : decode cX6_drainOf 82 = .ok (.aload_n 0, 1) := by decide +kernel
theorem dX6_drainOf_83 : decode cX6_drainOf 83 = .ok (.getfield 35, 3) := by decide +kernel
theorem dX6_drainOf_86 : decode cX6_drainOf 86 = .ok (.iload_n 1, 1) := by decide +kernel
theorem dX6_drainOf_87 : decode cX6_drainOf 87 = .ok (.iaload, 1) := by decide +kernel
theorem dX6_drainOf_88 : decode cX6_drainOf 88 = .ok (.imul, 1) := by decide +kernel
theorem dX6_drainOf_89 : decode cX6_drainOf 89 = .ok (.ireturn, 1) := by decide +kernel
set_option maxRecDepth 20000 in
theorem ggX6_drain_X6_isDuty : GoodIn wsX6_drain wsX6_isDuty := goodIn_r _ [11, 12, 13, 14, 10, 15, 24, 25, 26, 27, 28, 29, 30, 31, 32, 33, 34, 35, 36, 37, 38, 39, 40, 41, 42] (by decide +kernel) (by decide +kernel)
set_option maxRecDepth 20000 in
theorem gX6_drain_X6_isDuty : GoodIn wsX6_drain (wsV RX6 75 RX6 yX6_isDuty wsX6_isDuty) := goodIn_app (goodIn_of _ (by decide +kernel)) ggX6_drain_X6_isDuty
set_option maxRecDepth 20000 in
theorem ggX6_drain_X6_in : GoodIn wsX6_drain wsX6_in := goodIn_r _ [15] (by decide +kernel) (by decide +kernel)
set_option maxRecDepth 20000 in
theorem gX6_drain_X6_in : GoodIn wsX6_drain (va_wsS RX6 60 yX6_in wsX6_in) := goodIn_app (goodIn_of _ (by decide +kernel)) ggX6_drain_X6_in
set_option maxRecDepth 20000 in
theorem ggX6_drain_X6_drainOf : GoodIn wsX6_drain wsX6_drainOf := goodIn_r _ [19, 20, 21, 2, 22, 23, 3, 24, 25, 26, 27, 28, 29, 30, 31, 32, 33, 34, 35, 36, 37, 38, 39, 40, 41, 42] (by decide +kernel) (by decide +kernel)
set_option maxRecDepth 20000 in
theorem gX6_drain_X6_drainOf : GoodIn wsX6_drain (wsV RX6 86 RX6 yX6_drainOf wsX6_drainOf) := goodIn_app (goodIn_of _ (by decide +kernel)) ggX6_drain_X6_drainOf
theorem dX6_drain_0 : decode cX6_drain 0 = .ok (.aload_n 0, 1) := by decide +kernel
theorem dX6_drain_1 : decode cX6_drain 1 = .ok (.iconst 0, 1) := by decide +kernel
theorem dX6_drain_2 : decode cX6_drain 2 = .ok (.putfield 57, 3) := by decide +kernel
theorem dX6_drain_5 : decode cX6_drain 5 = .ok (.aload_n 0, 1) := by decide +kernel
theorem dX6_drain_6 : decode cX6_drain 6 = .ok (.iload_n 1, 1) := by decide +kernel
theorem dX6_drain_7 : decode cX6_drain 7 = .ok (.invokevirtual 75, 3) := by decide +kernel
theorem dX6_drain_10 : decode cX6_drain 10 = .ok (.ifCond .eq 32, 3) := by decide +kernel
theorem dX6_drain_13 : decode cX6_drain 13 = .ok (.iload_n 2, 1) := by decide +kernel
theorem dX6_drain_14 : decode cX6_drain 14 = .ok (.iconst 1, 1) := by decide +kernel
theorem dX6_drain_15 : decode cX6_drain 15 = .ok (.iconst 5, 1) := by decide +kernel
theorem dX6_drain_16 : decode cX6_drain 16 = .ok (.invokestatic 60, 3) := by decide +kernel
theorem dX6_drain_19 : decode cX6_drain 19 = .ok (.ifCond .eq 23, 3) := by decide +kernel
theorem dX6_drain_22 : decode cX6_drain 22 = .ok (.aload_n 0, 1) := by decide +kernel
theorem dX6_drain_23 : decode cX6_drain 23 = .ok (.getfield 23, 3) := by decide +kernel
theorem dX6_drain_26 : decode cX6_drain 26 = .ok (.iload_n 1, 1) := by decide +kernel
theorem dX6_drain_27 : decode cX6_drain 27 = .ok (.iaload, 1) := by decide +kernel
theorem dX6_drain_28 : decode cX6_drain 28 = .ok (.iconst 2, 1) := by decide +kernel
theorem dX6_drain_29 : decode cX6_drain 29 = .ok (.if_icmp .ne 15, 3) := by decide +kernel
theorem dX6_drain_32 : decode cX6_drain 32 = .ok (.iload_n 2, 1) := by decide +kernel
theorem dX6_drain_33 : decode cX6_drain 33 = .ok (.aload_n 0, 1) := by decide +kernel
theorem dX6_drain_34 : decode cX6_drain 34 = .ok (.getfield 35, 3) := by decide +kernel
theorem dX6_drain_37 : decode cX6_drain 37 = .ok (.iload_n 1, 1) := by decide +kernel
theorem dX6_drain_38 : decode cX6_drain 38 = .ok (.iaload, 1) := by decide +kernel
theorem dX6_drain_39 : decode cX6_drain 39 = .ok (.if_icmp .le 5, 3) := by decide +kernel
theorem dX6_drain_42 : decode cX6_drain 42 = .ok (.iconst (-1), 1) := by decide +kernel
theorem dX6_drain_43 : decode cX6_drain 43 = .ok (.ireturn, 1) := by decide +kernel
theorem dX6_drain_44 : decode cX6_drain 44 = .ok (.aload_n 0, 1) := by decide +kernel
theorem dX6_drain_45 : decode cX6_drain 45 = .ok (.dup, 1) := by decide +kernel
theorem dX6_drain_46 : decode cX6_drain 46 = .ok (.getfield 78, 3) := by decide +kernel
theorem dX6_drain_49 : decode cX6_drain 49 = .ok (.aload_n 0, 1) := by decide +kernel
theorem dX6_drain_50 : decode cX6_drain 50 = .ok (.getfield 23, 3) := by decide +kernel
theorem dX6_drain_53 : decode cX6_drain 53 = .ok (.iload_n 1, 1) := by decide +kernel
theorem dX6_drain_54 : decode cX6_drain 54 = .ok (.iaload, 1) := by decide +kernel
theorem dX6_drain_55 : decode cX6_drain 55 = .ok (.ifCond .ne 7, 3) := by decide +kernel
theorem dX6_drain_58 : decode cX6_drain 58 = .ok (.lconst 1, 1) := by decide +kernel
theorem dX6_drain_59 : decode cX6_drain 59 = .ok (.goto 22, 3) := by decide +kernel
theorem dX6_drain_62 : decode cX6_drain 62 = .ok (.aload_n 0, 1) := by decide +kernel
theorem dX6_drain_63 : decode cX6_drain 63 = .ok (.getfield 23, 3) := by decide +kernel
theorem dX6_drain_66 : decode cX6_drain 66 = .ok (.iload_n 1, 1) := by decide +kernel
theorem dX6_drain_67 : decode cX6_drain 67 = .ok (.iaload, 1) := by decide +kernel
theorem dX6_drain_68 : decode cX6_drain 68 = .ok (.iconst 1, 1) := by decide +kernel
theorem dX6_drain_69 : decode cX6_drain 69 = .ok (.if_icmp .ne 9, 3) := by decide +kernel
theorem dX6_drain_72 : decode cX6_drain 72 = .ok (.ldc2_w 82, 3) := by decide +kernel
theorem dX6_drain_75 : decode cX6_drain 75 = .ok (.goto 6, 3) := by decide +kernel
theorem dX6_drain_78 : decode cX6_drain 78 = .ok (.ldc2_w 84, 3) := by decide +kernel
theorem dX6_drain_81 : decode cX6_drain 81 = .ok (.ladd, 1) := by decide +kernel
theorem dX6_drain_82 : decode cX6_drain 82 = .ok (.putfield 78, 3) := by decide +kernel
theorem dX6_drain_85 : decode cX6_drain 85 = .ok (.aload_n 0, 1) := by decide +kernel
theorem dX6_drain_86 : decode cX6_drain 86 = .ok (.iload_n 1, 1) := by decide +kernel
theorem dX6_drain_87 : decode cX6_drain 87 = .ok (.iload_n 2, 1) := by decide +kernel
theorem dX6_drain_88 : decode cX6_drain 88 = .ok (.invokevirtual 86, 3) := by decide +kernel
theorem dX6_drain_91 : decode cX6_drain 91 = .ok (.ireturn, 1) := by decide +kernel
theorem dX6_bits_0 : decode cX6_bits 0 = .ok (.iconst 0, 1) := by decide +kernel
theorem dX6_bits_1 : decode cX6_bits 1 = .ok (.istore_n 1, 1) := by decide +kernel
theorem dX6_bits_2 : decode cX6_bits 2 = .ok (.iconst 0, 1) := by decide +kernel
theorem dX6_bits_3 : decode cX6_bits 3 = .ok (.istore_n 2, 1) := by decide +kernel
theorem dX6_bits_4 : decode cX6_bits 4 = .ok (.iload_n 2, 1) := by decide +kernel
theorem dX6_bits_5 : decode cX6_bits 5 = .ok (.aload_n 0, 1) := by decide +kernel
theorem dX6_bits_6 : decode cX6_bits 6 = .ok (.getfield 72, 3) := by decide +kernel
theorem dX6_bits_9 : decode cX6_bits 9 = .ok (.if_icmp .ge 28, 3) := by decide +kernel
theorem dX6_bits_12 : decode cX6_bits 12 = .ok (.iload_n 1, 1) := by decide +kernel
theorem dX6_bits_13 : decode cX6_bits 13 = .ok (.aload_n 0, 1) := by decide +kernel
theorem dX6_bits_14 : decode cX6_bits 14 = .ok (.getfield 41, 3) := by decide +kernel
theorem dX6_bits_17 : decode cX6_bits 17 = .ok (.iload_n 2, 1) := by decide +kernel
theorem dX6_bits_18 : decode cX6_bits 18 = .ok (.baload, 1) := by decide +kernel
theorem dX6_bits_19 : decode cX6_bits 19 = .ok (.ifCond .eq 9, 3) := by decide +kernel
theorem dX6_bits_22 : decode cX6_bits 22 = .ok (.iconst 1, 1) := by decide +kernel
theorem dX6_bits_23 : decode cX6_bits 23 = .ok (.iload_n 2, 1) := by decide +kernel
theorem dX6_bits_24 : decode cX6_bits 24 = .ok (.ishl, 1) := by decide +kernel
theorem dX6_bits_25 : decode cX6_bits 25 = .ok (.goto 4, 3) := by decide +kernel
theorem dX6_bits_28 : decode cX6_bits 28 = .ok (.iconst 0, 1) := by decide +kernel
theorem dX6_bits_29 : decode cX6_bits 29 = .ok (.ior, 1) := by decide +kernel
theorem dX6_bits_30 : decode cX6_bits 30 = .ok (.istore_n 1, 1) := by decide +kernel
theorem dX6_bits_31 : decode cX6_bits 31 = .ok (.iinc 2 1, 3) := by decide +kernel
theorem dX6_bits_34 : decode cX6_bits 34 = .ok (.goto (-30), 3) := by decide +kernel
theorem dX6_bits_37 : decode cX6_bits 37 = .ok (.iload_n 1, 1) := by decide +kernel
theorem dX6_bits_38 : decode cX6_bits 38 = .ok (.ireturn, 1) := by decide +kernel
set_option maxRecDepth 20000 in
theorem ggX6_drains_X6_drainOf : GoodIn wsX6_drains wsX6_drainOf := goodIn_r _ [6, 7, 8, 9, 10, 11, 12, 13, 14, 15, 16, 17, 18, 19, 20, 21, 22, 23, 24, 25, 26, 27, 28, 29, 30, 31] (by decide +kernel) (by decide +kernel)
set_option maxRecDepth 20000 in
theorem gX6_drains_X6_drainOf : GoodIn wsX6_drains (wsV RX6 86 RX6 yX6_drainOf wsX6_drainOf) := goodIn_app (goodIn_of _ (by decide +kernel)) ggX6_drains_X6_drainOf
theorem dX6_drains_0 : decode cX6_drains 0 = .ok (.iconst 0, 1) := by decide +kernel
theorem dX6_drains_1 : decode cX6_drains 1 = .ok (.istore_n 3, 1) := by decide +kernel
theorem dX6_drains_2 : decode cX6_drains 2 = .ok (.iconst 0, 1) := by decide +kernel
theorem dX6_drains_3 : decode cX6_drains 3 = .ok (.istore 4, 2) := by decide +kernel
theorem dX6_drains_5 : decode cX6_drains 5 = .ok (.iload 4, 2) := by decide +kernel
theorem dX6_drains_7 : decode cX6_drains 7 = .ok (.aload_n 0, 1) := by decide +kernel
theorem dX6_drains_8 : decode cX6_drains 8 = .ok (.getfield 72, 3) := by decide +kernel
theorem dX6_drains_11 : decode cX6_drains 11 = .ok (.if_icmp .ge 33, 3) := by decide +kernel
theorem dX6_drains_14 : decode cX6_drains 14 = .ok (.iload_n 3, 1) := by decide +kernel
theorem dX6_drains_15 : decode cX6_drains 15 = .ok (.iload_n 1, 1) := by decide +kernel
theorem dX6_drains_16 : decode cX6_drains 16 = .ok (.iload 4, 2) := by decide +kernel
theorem dX6_drains_18 : decode cX6_drains 18 = .ok (.ishr, 1) := by decide +kernel
theorem dX6_drains_19 : decode cX6_drains 19 = .ok (.iconst 1, 1) := by decide +kernel
theorem dX6_drains_20 : decode cX6_drains 20 = .ok (.iand, 1) := by decide +kernel
theorem dX6_drains_21 : decode cX6_drains 21 = .ok (.iconst 1, 1) := by decide +kernel
theorem dX6_drains_22 : decode cX6_drains 22 = .ok (.if_icmp .ne 13, 3) := by decide +kernel
theorem dX6_drains_25 : decode cX6_drains 25 = .ok (.aload_n 0, 1) := by decide +kernel
theorem dX6_drains_26 : decode cX6_drains 26 = .ok (.iload 4, 2) := by decide +kernel
theorem dX6_drains_28 : decode cX6_drains 28 = .ok (.iload_n 2, 1) := by decide +kernel
theorem dX6_drains_29 : decode cX6_drains 29 = .ok (.invokevirtual 86, 3) := by decide +kernel
theorem dX6_drains_32 : decode cX6_drains 32 = .ok (.goto 4, 3) := by decide +kernel
theorem dX6_drains_35 : decode cX6_drains 35 = .ok (.iconst 0, 1) := by decide +kernel
theorem dX6_drains_36 : decode cX6_drains 36 = .ok (.iadd, 1) := by decide +kernel
theorem dX6_drains_37 : decode cX6_drains 37 = .ok (.istore_n 3, 1) := by decide +kernel
theorem dX6_drains_38 : decode cX6_drains 38 = .ok (.iinc 4 1, 3) := by decide +kernel
theorem dX6_drains_41 : decode cX6_drains 41 = .ok (.goto (-36), 3) := by decide +kernel
theorem dX6_drains_44 : decode cX6_drains 44 = .ok (.iload_n 3, 1) := by decide +kernel
theorem dX6_drains_45 : decode cX6_drains 45 = .ok (.ireturn, 1) := by decide +kernel
theorem dX6_up_0 : decode cX6_up 0 = .ok (.iload_n 0, 1) := by decide +kernel
theorem dX6_up_1 : decode cX6_up 1 = .ok (.iload_n 1, 1) := by decide +kernel
theorem dX6_up_2 : decode cX6_up 2 = .ok (.iadd, 1) := by decide +kernel
theorem dX6_up_3 : decode cX6_up 3 = .ok (.iconst 1, 1) := by decide +kernel
theorem dX6_up_4 : decode cX6_up 4 = .ok (.isub, 1) := by decide +kernel
theorem dX6_up_5 : decode cX6_up 5 = .ok (.iload_n 1, 1) := by decide +kernel
theorem dX6_up_6 : decode cX6_up 6 = .ok (.idiv, 1) := by decide +kernel
theorem dX6_up_7 : decode cX6_up 7 = .ok (.ireturn, 1) := by decide +kernel
set_option maxRecDepth 20000 in
theorem ggX6_behind_X6_up : GoodIn wsX6_behind wsX6_up := goodIn_r _ [4] (by decide +kernel) (by decide +kernel)
set_option maxRecDepth 20000 in
theorem gX6_behind_X6_up : GoodIn wsX6_behind (va_wsS RX6 90 yX6_up wsX6_up) := goodIn_app (goodIn_of _ (by decide +kernel)) ggX6_behind_X6_up
set_option maxRecDepth 20000 in
theorem ggX6_behind_X6_shareOf : GoodIn wsX6_behind wsX6_shareOf := goodIn_r _ [8, 9, 10, 11, 12, 13, 14, 15, 16, 17, 18, 19, 20, 21, 22, 23, 24, 25, 26, 27, 28, 29, 30] (by decide +kernel) (by decide +kernel)
set_option maxRecDepth 20000 in
theorem gX6_behind_X6_shareOf : GoodIn wsX6_behind (wsV RX6 68 RX6 yX6_shareOf wsX6_shareOf) := goodIn_app (goodIn_of _ (by decide +kernel)) ggX6_behind_X6_shareOf
theorem dX6_behind_0 : decode cX6_behind 0 = .ok (.iload_n 1, 1) := by decide +kernel
theorem dX6_behind_1 : decode cX6_behind 1 = .ok (.iload_n 1, 1) := by decide +kernel
theorem dX6_behind_2 : decode cX6_behind 2 = .ok (.iload_n 3, 1) := by decide +kernel
theorem dX6_behind_3 : decode cX6_behind 3 = .ok (.imul, 1) := by decide +kernel
theorem dX6_behind_4 : decode cX6_behind 4 = .ok (.sipush 1000, 3) := by decide +kernel
theorem dX6_behind_7 : decode cX6_behind 7 = .ok (.invokestatic 90, 3) := by decide +kernel
theorem dX6_behind_10 : decode cX6_behind 10 = .ok (.isub, 1) := by decide +kernel
theorem dX6_behind_11 : decode cX6_behind 11 = .ok (.bipush 100, 2) := by decide +kernel
theorem dX6_behind_13 : decode cX6_behind 13 = .ok (.iload 4, 2) := by decide +kernel
theorem dX6_behind_15 : decode cX6_behind 15 = .ok (.imul, 1) := by decide +kernel
theorem dX6_behind_16 : decode cX6_behind 16 = .ok (.aload_n 0, 1) := by decide +kernel
theorem dX6_behind_17 : decode cX6_behind 17 = .ok (.iload_n 2, 1) := by decide +kernel
theorem dX6_behind_18 : decode cX6_behind 18 = .ok (.invokevirtual 68, 3) := by decide +kernel
theorem dX6_behind_21 : decode cX6_behind 21 = .ok (.invokestatic 90, 3) := by decide +kernel
theorem dX6_behind_24 : decode cX6_behind 24 = .ok (.isub, 1) := by decide +kernel
theorem dX6_behind_25 : decode cX6_behind 25 = .ok (.ireturn, 1) := by decide +kernel
set_option maxRecDepth 20000 in
theorem ggX6_lifeOf_X6_drains : GoodIn wsX6_lifeOf wsX6_drains := goodIn_r _ [6, 7, 8, 9, 10, 5, 11, 12, 13, 14, 15, 1, 16, 31, 32, 33, 34, 35, 36, 37, 38, 39, 40, 41, 42, 43, 44, 45, 46, 47, 48, 49] (by decide +kernel) (by decide +kernel)
set_option maxRecDepth 20000 in
theorem gX6_lifeOf_X6_drains : GoodIn wsX6_lifeOf (wsV RX6 93 RX6 yX6_drains wsX6_drains) := goodIn_app (goodIn_of _ (by decide +kernel)) ggX6_lifeOf_X6_drains
set_option maxRecDepth 20000 in
theorem ggX6_lifeOf_X6_behind : GoodIn wsX6_lifeOf wsX6_behind := goodIn_r _ [20, 21, 22, 5, 23, 24, 25, 26, 27, 28, 29, 30, 31, 32, 33, 34, 35, 36, 37, 38, 39, 40, 41, 42, 43, 44, 45, 46, 47, 48, 49] (by decide +kernel) (by decide +kernel)
set_option maxRecDepth 20000 in
theorem gX6_lifeOf_X6_behind : GoodIn wsX6_lifeOf (wsV RX6 96 RX6 yX6_behind wsX6_behind) := goodIn_app (goodIn_of _ (by decide +kernel)) ggX6_lifeOf_X6_behind
theorem dX6_lifeOf_0 : decode cX6_lifeOf 0 = .ok (.aload_n 0, 1) := by decide +kernel
theorem dX6_lifeOf_1 : decode cX6_lifeOf 1 = .ok (.iload_n 1, 1) := by decide +kernel
theorem dX6_lifeOf_2 : decode cX6_lifeOf 2 = .ok (.iload_n 2, 1) := by decide +kernel
theorem dX6_lifeOf_3 : decode cX6_lifeOf 3 = .ok (.invokevirtual 93, 3) := by decide +kernel
theorem dX6_lifeOf_6 : decode cX6_lifeOf 6 = .ok (.istore 4, 2) := by decide +kernel
theorem dX6_lifeOf_8 : decode cX6_lifeOf 8 = .ok (.sipush 1000, 3) := by decide +kernel
theorem dX6_lifeOf_11 : decode cX6_lifeOf 11 = .ok (.aload_n 0, 1) := by decide +kernel
theorem dX6_lifeOf_12 : decode cX6_lifeOf 12 = .ok (.getfield 7, 3) := by decide +kernel
theorem dX6_lifeOf_15 : decode cX6_lifeOf 15 = .ok (.iconst 0, 1) := by decide +kernel
theorem dX6_lifeOf_16 : decode cX6_lifeOf 16 = .ok (.iaload, 1) := by decide +kernel
theorem dX6_lifeOf_17 : decode cX6_lifeOf 17 = .ok (.imul, 1) := by decide +kernel
theorem dX6_lifeOf_18 : decode cX6_lifeOf 18 = .ok (.istore 5, 2) := by decide +kernel
theorem dX6_lifeOf_20 : decode cX6_lifeOf 20 = .ok (.iconst 0, 1) := by decide +kernel
theorem dX6_lifeOf_21 : decode cX6_lifeOf 21 = .ok (.istore 6, 2) := by decide +kernel
theorem dX6_lifeOf_23 : decode cX6_lifeOf 23 = .ok (.iload 6, 2) := by decide +kernel
theorem dX6_lifeOf_25 : decode cX6_lifeOf 25 = .ok (.iload_n 3, 1) := by decide +kernel
theorem dX6_lifeOf_26 : decode cX6_lifeOf 26 = .ok (.if_icmp .ge 44, 3) := by decide +kernel
theorem dX6_lifeOf_29 : decode cX6_lifeOf 29 = .ok (.iload 5, 2) := by decide +kernel
theorem dX6_lifeOf_31 : decode cX6_lifeOf 31 = .ok (.ifCond .lt 39, 3) := by decide +kernel
theorem dX6_lifeOf_34 : decode cX6_lifeOf 34 = .ok (.aload_n 0, 1) := by decide +kernel
theorem dX6_lifeOf_35 : decode cX6_lifeOf 35 = .ok (.iload 5, 2) := by decide +kernel
theorem dX6_lifeOf_37 : decode cX6_lifeOf 37 = .ok (.iload 6, 2) := by decide +kernel
theorem dX6_lifeOf_39 : decode cX6_lifeOf 39 = .ok (.aload_n 0, 1) := by decide +kernel
theorem dX6_lifeOf_40 : decode cX6_lifeOf 40 = .ok (.getfield 7, 3) := by decide +kernel
theorem dX6_lifeOf_43 : decode cX6_lifeOf 43 = .ok (.iconst 1, 1) := by decide +kernel
theorem dX6_lifeOf_44 : decode cX6_lifeOf 44 = .ok (.iaload, 1) := by decide +kernel
theorem dX6_lifeOf_45 : decode cX6_lifeOf 45 = .ok (.iload 4, 2) := by decide +kernel
theorem dX6_lifeOf_47 : decode cX6_lifeOf 47 = .ok (.invokevirtual 96, 3) := by decide +kernel
theorem dX6_lifeOf_50 : decode cX6_lifeOf 50 = .ok (.istore 5, 2) := by decide +kernel
theorem dX6_lifeOf_52 : decode cX6_lifeOf 52 = .ok (.iload 6, 2) := by decide +kernel
theorem dX6_lifeOf_54 : decode cX6_lifeOf 54 = .ok (.iload 5, 2) := by decide +kernel
theorem dX6_lifeOf_56 : decode cX6_lifeOf 56 = .ok (.ifCond .lt 7, 3) := by decide +kernel
theorem dX6_lifeOf_59 : decode cX6_lifeOf 59 = .ok (.iconst 1, 1) := by decide +kernel
theorem dX6_lifeOf_60 : decode cX6_lifeOf 60 = .ok (.goto 4, 3) := by decide +kernel
theorem dX6_lifeOf_63 : decode cX6_lifeOf 63 = .ok (.iconst 0, 1) := by decide +kernel
theorem dX6_lifeOf_64 : decode cX6_lifeOf 64 = .ok (.iadd, 1) := by decide +kernel
theorem dX6_lifeOf_65 : decode cX6_lifeOf 65 = .ok (.istore 6, 2) := by decide +kernel
theorem dX6_lifeOf_67 : decode cX6_lifeOf 67 = .ok (.goto (-44), 3) := by decide +kernel
theorem dX6_lifeOf_70 : decode cX6_lifeOf 70 = .ok (.iload 6, 2) := by decide +kernel
theorem dX6_lifeOf_72 : decode cX6_lifeOf 72 = .ok (.ireturn, 1) := by decide +kernel
set_option maxRecDepth 20000 in
theorem ggX6_isTries_X6_in : GoodIn wsX6_isTries wsX6_in := goodIn_r _ [4] (by decide +kernel) (by decide +kernel)
set_option maxRecDepth 20000 in
theorem gX6_isTries_X6_in : GoodIn wsX6_isTries (va_wsS RX6 60 yX6_in wsX6_in) := goodIn_app (goodIn_of _ (by decide +kernel)) ggX6_isTries_X6_in
theorem dX6_isTries_0 : decode cX6_isTries 0 = .ok (.iload_n 0, 1) := by decide +kernel
theorem dX6_isTries_1 : decode cX6_isTries 1 = .ok (.iconst 1, 1) := by decide +kernel
theorem dX6_isTries_2 : decode cX6_isTries 2 = .ok (.iconst 5, 1) := by decide +kernel
theorem dX6_isTries_3 : decode cX6_isTries 3 = .ok (.invokestatic 60, 3) := by decide +kernel
theorem dX6_isTries_6 : decode cX6_isTries 6 = .ok (.ireturn, 1) := by decide +kernel
set_option maxRecDepth 20000 in
theorem ggX6_life_X6_isTries : GoodIn wsX6_life wsX6_isTries := goodIn_r _ [5, 6, 7, 4, 8] (by decide +kernel) (by decide +kernel)
set_option maxRecDepth 20000 in
theorem gX6_life_X6_isTries : GoodIn wsX6_life (va_wsS RX6 100 yX6_isTries wsX6_isTries) := goodIn_app (goodIn_of _ (by decide +kernel)) ggX6_life_X6_isTries
set_option maxRecDepth 20000 in
theorem ggX6_life_X6_bits : GoodIn wsX6_life wsX6_bits := goodIn_r _ [12, 13, 14, 47, 48, 49, 50, 51, 52, 53, 54, 55, 56, 57, 58, 59, 60, 61, 62, 63, 64, 65] (by decide +kernel) (by decide +kernel)
set_option maxRecDepth 20000 in
theorem gX6_life_X6_bits : GoodIn wsX6_life (wsV RX6 103 RX6 yX6_bits wsX6_bits) := goodIn_app (goodIn_of _ (by decide +kernel)) ggX6_life_X6_bits
set_option maxRecDepth 20000 in
theorem ggX6_life_X6_lifeOf : GoodIn wsX6_life wsX6_lifeOf := goodIn_r _ [18, 19, 20, 21, 22, 4, 23, 13, 24, 25, 26, 27, 28, 29, 30, 31, 32, 33, 34, 35, 36, 37, 38, 39, 40, 41, 42, 43, 44, 45, 46, 47, 48, 49, 50, 51, 52, 53, 54, 55, 56, 57, 58, 59, 60, 61, 62, 63, 64, 65] (by decide +kernel) (by decide +kernel)
set_option maxRecDepth 20000 in
theorem gX6_life_X6_lifeOf : GoodIn wsX6_life (wsV RX6 107 RX6 yX6_lifeOf wsX6_lifeOf) := goodIn_app (goodIn_of _ (by decide +kernel)) ggX6_life_X6_lifeOf
theorem dX6_life_0 : decode cX6_life 0 = .ok (.aload_n 0, 1) := by decide +kernel
theorem dX6_life_1 : decode cX6_life 1 = .ok (.iconst 0, 1) := by decide +kernel
theorem dX6_life_2 : decode cX6_life 2 = .ok (.putfield 57, 3) := by decide +kernel
theorem dX6_life_5 : decode cX6_life 5 = .ok (.iload_n 1, 1) := by decide +kernel
theorem dX6_life_6 : decode cX6_life 6 = .ok (.invokestatic 100, 3) := by decide +kernel
theorem dX6_life_9 : decode cX6_life 9 = .ok (.ifCond .eq 18, 3) := by decide +kernel
theorem dX6_life_12 : decode cX6_life 12 = .ok (.aload_n 0, 1) := by decide +kernel
theorem dX6_life_13 : decode cX6_life 13 = .ok (.aload_n 0, 1) := by decide +kernel
theorem dX6_life_14 : decode cX6_life 14 = .ok (.invokevirtual 103, 3) := by decide +kernel
theorem dX6_life_17 : decode cX6_life 17 = .ok (.iload_n 1, 1) := by decide +kernel
theorem dX6_life_18 : decode cX6_life 18 = .ok (.sipush 400, 3) := by decide +kernel
theorem dX6_life_21 : decode cX6_life 21 = .ok (.invokevirtual 107, 3) := by decide +kernel
theorem dX6_life_24 : decode cX6_life 24 = .ok (.goto 4, 3) := by decide +kernel
theorem dX6_life_27 : decode cX6_life 27 = .ok (.iconst (-1), 1) := by decide +kernel
theorem dX6_life_28 : decode cX6_life 28 = .ok (.ireturn, 1) := by decide +kernel
set_option maxRecDepth 20000 in
theorem ggX6_charge_X6_isDay : GoodIn wsX6_charge wsX6_isDay := goodIn_r _ [6, 7, 8, 5, 9] (by decide +kernel) (by decide +kernel)
set_option maxRecDepth 20000 in
theorem gX6_charge_X6_isDay : GoodIn wsX6_charge (va_wsS RX6 64 yX6_isDay wsX6_isDay) := goodIn_app (goodIn_of _ (by decide +kernel)) ggX6_charge_X6_isDay
set_option maxRecDepth 20000 in
theorem ggX6_charge_X6_isTries : GoodIn wsX6_charge wsX6_isTries := goodIn_r _ [12, 7, 8, 5, 9] (by decide +kernel) (by decide +kernel)
set_option maxRecDepth 20000 in
theorem gX6_charge_X6_isTries : GoodIn wsX6_charge (va_wsS RX6 100 yX6_isTries wsX6_isTries) := goodIn_app (goodIn_of _ (by decide +kernel)) ggX6_charge_X6_isTries
set_option maxRecDepth 20000 in
theorem ggX6_charge_X6_bits : GoodIn wsX6_charge wsX6_bits := goodIn_r _ [16, 17, 18, 46, 47, 48, 49, 50, 51, 52, 53, 54, 55, 56, 57, 58, 59, 60, 61, 62, 63, 64] (by decide +kernel) (by decide +kernel)
set_option maxRecDepth 20000 in
theorem gX6_charge_X6_bits : GoodIn wsX6_charge (wsV RX6 103 RX6 yX6_bits wsX6_bits) := goodIn_app (goodIn_of _ (by decide +kernel)) ggX6_charge_X6_bits
set_option maxRecDepth 20000 in
theorem ggX6_charge_X6_drains : GoodIn wsX6_charge wsX6_drains := goodIn_r _ [22, 17, 23, 24, 25, 5, 26, 27, 28, 29, 30, 2, 31, 46, 47, 48, 49, 50, 51, 52, 53, 54, 55, 56, 57, 58, 59, 60, 61, 62, 63, 64] (by decide +kernel) (by decide +kernel)
set_option maxRecDepth 20000 in
theorem gX6_charge_X6_drains : GoodIn wsX6_charge (wsV RX6 93 RX6 yX6_drains wsX6_drains) := goodIn_app (goodIn_of _ (by decide +kernel)) ggX6_charge_X6_drains
set_option maxRecDepth 20000 in
theorem ggX6_charge_X6_behind : GoodIn wsX6_charge wsX6_behind := goodIn_r _ [35, 36, 37, 5, 38, 39, 40, 41, 42, 43, 44, 45, 46, 47, 48, 49, 50, 51, 52, 53, 54, 55, 56, 57, 58, 59, 60, 61, 62, 63, 64] (by decide +kernel) (by decide +kernel)
set_option maxRecDepth 20000 in
theorem gX6_charge_X6_behind : GoodIn wsX6_charge (wsV RX6 96 RX6 yX6_behind wsX6_behind) := goodIn_app (goodIn_of _ (by decide +kernel)) ggX6_charge_X6_behind
theorem dX6_charge_0 : decode cX6_charge 0 = .ok (.aload_n 0, 1) := by decide +kernel
theorem dX6_charge_1 : decode cX6_charge 1 = .ok (.iconst 0, 1) := by decide +kernel
theorem dX6_charge_2 : decode cX6_charge 2 = .ok (.putfield 57, 3) := by decide +kernel
theorem dX6_charge_5 : decode cX6_charge 5 = .ok (.iload_n 1, 1) := by decide +kernel
theorem dX6_charge_6 : decode cX6_charge 6 = .ok (.invokestatic 64, 3) := by decide +kernel
theorem dX6_charge_9 : decode cX6_charge 9 = .ok (.ifCond .eq 10, 3) := by decide +kernel
theorem dX6_charge_12 : decode cX6_charge 12 = .ok (.iload_n 2, 1) := by decide +kernel
theorem dX6_charge_13 : decode cX6_charge 13 = .ok (.invokestatic 100, 3) := by decide +kernel
theorem dX6_charge_16 : decode cX6_charge 16 = .ok (.ifCond .ne 5, 3) := by decide +kernel
theorem dX6_charge_19 : decode cX6_charge 19 = .ok (.iconst (-1), 1) := by decide +kernel
theorem dX6_charge_20 : decode cX6_charge 20 = .ok (.ireturn, 1) := by decide +kernel
theorem dX6_charge_21 : decode cX6_charge 21 = .ok (.aload_n 0, 1) := by decide +kernel
theorem dX6_charge_22 : decode cX6_charge 22 = .ok (.aload_n 0, 1) := by decide +kernel
theorem dX6_charge_23 : decode cX6_charge 23 = .ok (.invokevirtual 103, 3) := by decide +kernel
theorem dX6_charge_26 : decode cX6_charge 26 = .ok (.iload_n 2, 1) := by decide +kernel
theorem dX6_charge_27 : decode cX6_charge 27 = .ok (.invokevirtual 93, 3) := by decide +kernel
theorem dX6_charge_30 : decode cX6_charge 30 = .ok (.istore_n 3, 1) := by decide +kernel
theorem dX6_charge_31 : decode cX6_charge 31 = .ok (.sipush 1000, 3) := by decide +kernel
theorem dX6_charge_34 : decode cX6_charge 34 = .ok (.aload_n 0, 1) := by decide +kernel
theorem dX6_charge_35 : decode cX6_charge 35 = .ok (.getfield 7, 3) := by decide +kernel
theorem dX6_charge_38 : decode cX6_charge 38 = .ok (.iconst 0, 1) := by decide +kernel
theorem dX6_charge_39 : decode cX6_charge 39 = .ok (.iaload, 1) := by decide +kernel
theorem dX6_charge_40 : decode cX6_charge 40 = .ok (.imul, 1) := by decide +kernel
theorem dX6_charge_41 : decode cX6_charge 41 = .ok (.istore 4, 2) := by decide +kernel
theorem dX6_charge_43 : decode cX6_charge 43 = .ok (.iconst 0, 1) := by decide +kernel
theorem dX6_charge_44 : decode cX6_charge 44 = .ok (.istore 5, 2) := by decide +kernel
theorem dX6_charge_46 : decode cX6_charge 46 = .ok (.iload 5, 2) := by decide +kernel
theorem dX6_charge_48 : decode cX6_charge 48 = .ok (.iload_n 1, 1) := by decide +kernel
theorem dX6_charge_49 : decode cX6_charge 49 = .ok (.if_icmp .gt 31, 3) := by decide +kernel
theorem dX6_charge_52 : decode cX6_charge 52 = .ok (.iload 4, 2) := by decide +kernel
theorem dX6_charge_54 : decode cX6_charge 54 = .ok (.ifCond .lt 26, 3) := by decide +kernel
theorem dX6_charge_57 : decode cX6_charge 57 = .ok (.aload_n 0, 1) := by decide +kernel
theorem dX6_charge_58 : decode cX6_charge 58 = .ok (.iload 4, 2) := by decide +kernel
theorem dX6_charge_60 : decode cX6_charge 60 = .ok (.iload 5, 2) := by decide +kernel
theorem dX6_charge_62 : decode cX6_charge 62 = .ok (.aload_n 0, 1) := by decide +kernel
theorem dX6_charge_63 : decode cX6_charge 63 = .ok (.getfield 7, 3) := by decide +kernel
theorem dX6_charge_66 : decode cX6_charge 66 = .ok (.iconst 1, 1) := by decide +kernel
theorem dX6_charge_67 : decode cX6_charge 67 = .ok (.iaload, 1) := by decide +kernel
theorem dX6_charge_68 : decode cX6_charge 68 = .ok (.iload_n 3, 1) := by decide +kernel
theorem dX6_charge_69 : decode cX6_charge 69 = .ok (.invokevirtual 96, 3) := by decide +kernel
theorem dX6_charge_72 : decode cX6_charge 72 = .ok (.istore 4, 2) := by decide +kernel
theorem dX6_charge_74 : decode cX6_charge 74 = .ok (.iinc 5 1, 3) := by decide +kernel
theorem dX6_charge_77 : decode cX6_charge 77 = .ok (.goto (-31), 3) := by decide +kernel
theorem dX6_charge_80 : decode cX6_charge 80 = .ok (.iload 4, 2) := by decide +kernel
theorem dX6_charge_82 : decode cX6_charge 82 = .ok (.ifCond .ge 7, 3) := by decide +kernel
theorem dX6_charge_85 : decode cX6_charge 85 = .ok (.iconst 0, 1) := by decide +kernel
theorem dX6_charge_86 : decode cX6_charge 86 = .ok (.goto 5, 3) := by decide +kernel
theorem dX6_charge_89 : decode cX6_charge 89 = .ok (.iload 4, 2) := by decide +kernel
theorem dX6_charge_91 : decode cX6_charge 91 = .ok (.ireturn, 1) := by decide +kernel
set_option maxRecDepth 20000 in
theorem ggX6_price_X6_isDuty : GoodIn wsX6_price wsX6_isDuty := goodIn_r _ [6, 7, 8, 9, 5, 10, 48, 49, 50, 51, 52, 53, 54, 55, 56, 57, 58, 59, 60, 61, 62, 63, 64, 65, 66] (by decide +kernel) (by decide +kernel)
set_option maxRecDepth 20000 in
theorem gX6_price_X6_isDuty : GoodIn wsX6_price (wsV RX6 75 RX6 yX6_isDuty wsX6_isDuty) := goodIn_app (goodIn_of _ (by decide +kernel)) ggX6_price_X6_isDuty
set_option maxRecDepth 20000 in
theorem ggX6_price_X6_bits : GoodIn wsX6_price wsX6_bits := goodIn_r _ [14, 7, 15, 48, 49, 50, 51, 52, 53, 54, 55, 56, 57, 58, 59, 60, 61, 62, 63, 64, 65, 66] (by decide +kernel) (by decide +kernel)
set_option maxRecDepth 20000 in
theorem gX6_price_X6_bits : GoodIn wsX6_price (wsV RX6 103 RX6 yX6_bits wsX6_bits) := goodIn_app (goodIn_of _ (by decide +kernel)) ggX6_price_X6_bits
set_option maxRecDepth 20000 in
theorem ggX6_price_X6_lifeOf : GoodIn wsX6_price wsX6_lifeOf := goodIn_r _ [19, 20, 21, 22, 23, 5, 24, 7, 25, 26, 27, 28, 29, 30, 31, 32, 33, 34, 35, 36, 37, 38, 39, 40, 41, 42, 43, 44, 45, 46, 47, 48, 49, 50, 51, 52, 53, 54, 55, 56, 57, 58, 59, 60, 61, 62, 63, 64, 65, 66] (by decide +kernel) (by decide +kernel)
set_option maxRecDepth 20000 in
theorem gX6_price_X6_lifeOf : GoodIn wsX6_price (wsV RX6 107 RX6 yX6_lifeOf wsX6_lifeOf) := goodIn_app (goodIn_of _ (by decide +kernel)) ggX6_price_X6_lifeOf
theorem dX6_price_0 : decode cX6_price 0 = .ok (.aload_n 0, 1) := by decide +kernel
theorem dX6_price_1 : decode cX6_price 1 = .ok (.iconst 0, 1) := by decide +kernel
theorem dX6_price_2 : decode cX6_price 2 = .ok (.putfield 57, 3) := by decide +kernel
theorem dX6_price_5 : decode cX6_price 5 = .ok (.aload_n 0, 1) := by decide +kernel
theorem dX6_price_6 : decode cX6_price 6 = .ok (.iload_n 1, 1) := by decide +kernel
theorem dX6_price_7 : decode cX6_price 7 = .ok (.invokevirtual 75, 3) := by decide +kernel
theorem dX6_price_10 : decode cX6_price 10 = .ok (.ifCond .ne 5, 3) := by decide +kernel
theorem dX6_price_13 : decode cX6_price 13 = .ok (.iconst (-1), 1) := by decide +kernel
theorem dX6_price_14 : decode cX6_price 14 = .ok (.ireturn, 1) := by decide +kernel
theorem dX6_price_15 : decode cX6_price 15 = .ok (.aload_n 0, 1) := by decide +kernel
theorem dX6_price_16 : decode cX6_price 16 = .ok (.invokevirtual 103, 3) := by decide +kernel
theorem dX6_price_19 : decode cX6_price 19 = .ok (.iconst 1, 1) := by decide +kernel
theorem dX6_price_20 : decode cX6_price 20 = .ok (.iload_n 1, 1) := by decide +kernel
theorem dX6_price_21 : decode cX6_price 21 = .ok (.ishl, 1) := by decide +kernel
theorem dX6_price_22 : decode cX6_price 22 = .ok (.ior, 1) := by decide +kernel
theorem dX6_price_23 : decode cX6_price 23 = .ok (.istore_n 2, 1) := by decide +kernel
theorem dX6_price_24 : decode cX6_price 24 = .ok (.aload_n 0, 1) := by decide +kernel
theorem dX6_price_25 : decode cX6_price 25 = .ok (.iload_n 2, 1) := by decide +kernel
theorem dX6_price_26 : decode cX6_price 26 = .ok (.iconst 1, 1) := by decide +kernel
theorem dX6_price_27 : decode cX6_price 27 = .ok (.iload_n 1, 1) := by decide +kernel
theorem dX6_price_28 : decode cX6_price 28 = .ok (.ishl, 1) := by decide +kernel
theorem dX6_price_29 : decode cX6_price 29 = .ok (.isub, 1) := by decide +kernel
theorem dX6_price_30 : decode cX6_price 30 = .ok (.iconst 5, 1) := by decide +kernel
theorem dX6_price_31 : decode cX6_price 31 = .ok (.sipush 400, 3) := by decide +kernel
theorem dX6_price_34 : decode cX6_price 34 = .ok (.invokevirtual 107, 3) := by decide +kernel
theorem dX6_price_37 : decode cX6_price 37 = .ok (.aload_n 0, 1) := by decide +kernel
theorem dX6_price_38 : decode cX6_price 38 = .ok (.iload_n 2, 1) := by decide +kernel
theorem dX6_price_39 : decode cX6_price 39 = .ok (.iconst 5, 1) := by decide +kernel
theorem dX6_price_40 : decode cX6_price 40 = .ok (.sipush 400, 3) := by decide +kernel
theorem dX6_price_43 : decode cX6_price 43 = .ok (.invokevirtual 107, 3) := by decide +kernel
theorem dX6_price_46 : decode cX6_price 46 = .ok (.isub, 1) := by decide +kernel
theorem dX6_price_47 : decode cX6_price 47 = .ok (.ireturn, 1) := by decide +kernel
theorem dX6_worthOf_0 : decode cX6_worthOf 0 = .ok (.iconst 0, 1) := by decide +kernel
theorem dX6_worthOf_1 : decode cX6_worthOf 1 = .ok (.istore_n 2, 1) := by decide +kernel
theorem dX6_worthOf_2 : decode cX6_worthOf 2 = .ok (.iconst 0, 1) := by decide +kernel
theorem dX6_worthOf_3 : decode cX6_worthOf 3 = .ok (.istore_n 3, 1) := by decide +kernel
theorem dX6_worthOf_4 : decode cX6_worthOf 4 = .ok (.iload_n 3, 1) := by decide +kernel
theorem dX6_worthOf_5 : decode cX6_worthOf 5 = .ok (.aload_n 0, 1) := by decide +kernel
theorem dX6_worthOf_6 : decode cX6_worthOf 6 = .ok (.getfield 72, 3) := by decide +kernel
theorem dX6_worthOf_9 : decode cX6_worthOf 9 = .ok (.if_icmp .ge 31, 3) := by decide +kernel
theorem dX6_worthOf_12 : decode cX6_worthOf 12 = .ok (.iload_n 2, 1) := by decide +kernel
theorem dX6_worthOf_13 : decode cX6_worthOf 13 = .ok (.iload_n 1, 1) := by decide +kernel
theorem dX6_worthOf_14 : decode cX6_worthOf 14 = .ok (.iload_n 3, 1) := by decide +kernel
theorem dX6_worthOf_15 : decode cX6_worthOf 15 = .ok (.ishr, 1) := by decide +kernel
theorem dX6_worthOf_16 : decode cX6_worthOf 16 = .ok (.iconst 1, 1) := by decide +kernel
theorem dX6_worthOf_17 : decode cX6_worthOf 17 = .ok (.iand, 1) := by decide +kernel
theorem dX6_worthOf_18 : decode cX6_worthOf 18 = .ok (.iconst 1, 1) := by decide +kernel
theorem dX6_worthOf_19 : decode cX6_worthOf 19 = .ok (.if_icmp .ne 12, 3) := by decide +kernel
theorem dX6_worthOf_22 : decode cX6_worthOf 22 = .ok (.aload_n 0, 1) := by decide +kernel
theorem dX6_worthOf_23 : decode cX6_worthOf 23 = .ok (.getfield 38, 3) := by decide +kernel
theorem dX6_worthOf_26 : decode cX6_worthOf 26 = .ok (.iload_n 3, 1) := by decide +kernel
theorem dX6_worthOf_27 : decode cX6_worthOf 27 = .ok (.iaload, 1) := by decide +kernel
theorem dX6_worthOf_28 : decode cX6_worthOf 28 = .ok (.goto 4, 3) := by decide +kernel
theorem dX6_worthOf_31 : decode cX6_worthOf 31 = .ok (.iconst 0, 1) := by decide +kernel
theorem dX6_worthOf_32 : decode cX6_worthOf 32 = .ok (.iadd, 1) := by decide +kernel
theorem dX6_worthOf_33 : decode cX6_worthOf 33 = .ok (.istore_n 2, 1) := by decide +kernel
theorem dX6_worthOf_34 : decode cX6_worthOf 34 = .ok (.iinc 3 1, 3) := by decide +kernel
theorem dX6_worthOf_37 : decode cX6_worthOf 37 = .ok (.goto (-33), 3) := by decide +kernel
theorem dX6_worthOf_40 : decode cX6_worthOf 40 = .ok (.iload_n 2, 1) := by decide +kernel
theorem dX6_worthOf_41 : decode cX6_worthOf 41 = .ok (.ireturn, 1) := by decide +kernel
set_option maxRecDepth 20000 in
theorem ggX6_plan_X6_in : GoodIn wsX6_plan wsX6_in := goodIn_r _ [6] (by decide +kernel) (by decide +kernel)
set_option maxRecDepth 20000 in
theorem gX6_plan_X6_in : GoodIn wsX6_plan (va_wsS RX6 60 yX6_in wsX6_in) := goodIn_app (goodIn_of _ (by decide +kernel)) ggX6_plan_X6_in
set_option maxRecDepth 20000 in
theorem ggX6_plan_X6_worthOf : GoodIn wsX6_plan wsX6_worthOf := goodIn_r _ [10, 2, 11, 44, 45, 46, 47, 48, 49, 50, 51, 52, 53, 54, 55, 56, 57, 58, 59, 60, 61, 62] (by decide +kernel) (by decide +kernel)
set_option maxRecDepth 20000 in
theorem gX6_plan_X6_worthOf : GoodIn wsX6_plan (wsV RX6 111 RX6 yX6_worthOf wsX6_worthOf) := goodIn_app (goodIn_of _ (by decide +kernel)) ggX6_plan_X6_worthOf
set_option maxRecDepth 20000 in
theorem ggX6_plan_X6_lifeOf : GoodIn wsX6_plan wsX6_lifeOf := goodIn_r _ [15, 16, 17, 18, 19, 5, 20, 2, 21, 22, 23, 24, 25, 26, 27, 28, 29, 30, 31, 32, 33, 34, 35, 36, 37, 38, 39, 40, 41, 42, 43, 44, 45, 46, 47, 48, 49, 50, 51, 52, 53, 54, 55, 56, 57, 58, 59, 60, 61, 62] (by decide +kernel) (by decide +kernel)
set_option maxRecDepth 20000 in
theorem gX6_plan_X6_lifeOf : GoodIn wsX6_plan (wsV RX6 107 RX6 yX6_lifeOf wsX6_lifeOf) := goodIn_app (goodIn_of _ (by decide +kernel)) ggX6_plan_X6_lifeOf
theorem dX6_plan_0 : decode cX6_plan 0 = .ok (.aload_n 0, 1) := by decide +kernel
theorem dX6_plan_1 : decode cX6_plan 1 = .ok (.iconst 0, 1) := by decide +kernel
theorem dX6_plan_2 : decode cX6_plan 2 = .ok (.putfield 57, 3) := by decide +kernel
theorem dX6_plan_5 : decode cX6_plan 5 = .ok (.iload_n 1, 1) := by decide +kernel
theorem dX6_plan_6 : decode cX6_plan 6 = .ok (.iconst 1, 1) := by decide +kernel
theorem dX6_plan_7 : decode cX6_plan 7 = .ok (.sipush 400, 3) := by decide +kernel
theorem dX6_plan_10 : decode cX6_plan 10 = .ok (.invokestatic 60, 3) := by decide +kernel
theorem dX6_plan_13 : decode cX6_plan 13 = .ok (.ifCond .eq 12, 3) := by decide +kernel
theorem dX6_plan_16 : decode cX6_plan 16 = .ok (.iload_n 2, 1) := by decide +kernel
theorem dX6_plan_17 : decode cX6_plan 17 = .ok (.iconst 0, 1) := by decide +kernel
theorem dX6_plan_18 : decode cX6_plan 18 = .ok (.iconst 2, 1) := by decide +kernel
theorem dX6_plan_19 : decode cX6_plan 19 = .ok (.invokestatic 60, 3) := by decide +kernel
theorem dX6_plan_22 : decode cX6_plan 22 = .ok (.ifCond .ne 5, 3) := by decide +kernel
theorem dX6_plan_25 : decode cX6_plan 25 = .ok (.iconst (-1), 1) := by decide +kernel
theorem dX6_plan_26 : decode cX6_plan 26 = .ok (.ireturn, 1) := by decide +kernel
theorem dX6_plan_27 : decode cX6_plan 27 = .ok (.bipush (-9), 2) := by decide +kernel
theorem dX6_plan_29 : decode cX6_plan 29 = .ok (.istore_n 3, 1) := by decide +kernel
theorem dX6_plan_30 : decode cX6_plan 30 = .ok (.iconst 0, 1) := by decide +kernel
theorem dX6_plan_31 : decode cX6_plan 31 = .ok (.istore 4, 2) := by decide +kernel
theorem dX6_plan_33 : decode cX6_plan 33 = .ok (.iload 4, 2) := by decide +kernel
theorem dX6_plan_35 : decode cX6_plan 35 = .ok (.iconst 1, 1) := by decide +kernel
theorem dX6_plan_36 : decode cX6_plan 36 = .ok (.aload_n 0, 1) := by decide +kernel
theorem dX6_plan_37 : decode cX6_plan 37 = .ok (.getfield 72, 3) := by decide +kernel
theorem dX6_plan_40 : decode cX6_plan 40 = .ok (.ishl, 1) := by decide +kernel
theorem dX6_plan_41 : decode cX6_plan 41 = .ok (.if_icmp .ge 44, 3) := by decide +kernel
theorem dX6_plan_44 : decode cX6_plan 44 = .ok (.iload_n 3, 1) := by decide +kernel
theorem dX6_plan_45 : decode cX6_plan 45 = .ok (.bipush (-9), 2) := by decide +kernel
theorem dX6_plan_47 : decode cX6_plan 47 = .ok (.if_icmp .eq 17, 3) := by decide +kernel
theorem dX6_plan_50 : decode cX6_plan 50 = .ok (.aload_n 0, 1) := by decide +kernel
theorem dX6_plan_51 : decode cX6_plan 51 = .ok (.iload 4, 2) := by decide +kernel
theorem dX6_plan_53 : decode cX6_plan 53 = .ok (.invokevirtual 111, 3) := by decide +kernel
theorem dX6_plan_56 : decode cX6_plan 56 = .ok (.aload_n 0, 1) := by decide +kernel
theorem dX6_plan_57 : decode cX6_plan 57 = .ok (.iload_n 3, 1) := by decide +kernel
theorem dX6_plan_58 : decode cX6_plan 58 = .ok (.invokevirtual 111, 3) := by decide +kernel
theorem dX6_plan_61 : decode cX6_plan 61 = .ok (.if_icmp .le 18, 3) := by decide +kernel
theorem dX6_plan_64 : decode cX6_plan 64 = .ok (.aload_n 0, 1) := by decide +kernel
theorem dX6_plan_65 : decode cX6_plan 65 = .ok (.iload 4, 2) := by decide +kernel
theorem dX6_plan_67 : decode cX6_plan 67 = .ok (.iconst 5, 1) := by decide +kernel
theorem dX6_plan_68 : decode cX6_plan 68 = .ok (.iload_n 1, 1) := by decide +kernel
theorem dX6_plan_69 : decode cX6_plan 69 = .ok (.invokevirtual 107, 3) := by decide +kernel
theorem dX6_plan_72 : decode cX6_plan 72 = .ok (.iload_n 1, 1) := by decide +kernel
theorem dX6_plan_73 : decode cX6_plan 73 = .ok (.if_icmp .ne 6, 3) := by decide +kernel
theorem dX6_plan_76 : decode cX6_plan 76 = .ok (.iload 4, 2) := by decide +kernel
theorem dX6_plan_78 : decode cX6_plan 78 = .ok (.istore_n 3, 1) := by decide +kernel
theorem dX6_plan_79 : decode cX6_plan 79 = .ok (.iinc 4 1, 3) := by decide +kernel
theorem dX6_plan_82 : decode cX6_plan 82 = .ok (.goto (-49), 3) := by decide +kernel
theorem dX6_plan_85 : decode cX6_plan 85 = .ok (.iload_n 3, 1) := by decide +kernel
theorem dX6_plan_86 : decode cX6_plan 86 = .ok (.bipush (-9), 2) := by decide +kernel
theorem dX6_plan_88 : decode cX6_plan 88 = .ok (.if_icmp .ne 8, 3) := by decide +kernel
theorem dX6_plan_91 : decode cX6_plan 91 = .ok (.bipush (-9), 2) := by decide +kernel
theorem dX6_plan_93 : decode cX6_plan 93 = .ok (.goto 33, 3) := by decide +kernel
theorem dX6_plan_96 : decode cX6_plan 96 = .ok (.iload_n 2, 1) := by decide +kernel
theorem dX6_plan_97 : decode cX6_plan 97 = .ok (.ifCond .ne 7, 3) := by decide +kernel
theorem dX6_plan_100 : decode cX6_plan 100 = .ok (.iload_n 3, 1) := by decide +kernel
theorem dX6_plan_101 : decode cX6_plan 101 = .ok (.goto 25, 3) := by decide +kernel
theorem dX6_plan_104 : decode cX6_plan 104 = .ok (.iload_n 2, 1) := by decide +kernel
theorem dX6_plan_105 : decode cX6_plan 105 = .ok (.iconst 1, 1) := by decide +kernel
theorem dX6_plan_106 : decode cX6_plan 106 = .ok (.if_icmp .ne 11, 3) := by decide +kernel
theorem dX6_plan_109 : decode cX6_plan 109 = .ok (.aload_n 0, 1) := by decide +kernel
theorem dX6_plan_110 : decode cX6_plan 110 = .ok (.iload_n 3, 1) := by decide +kernel
theorem dX6_plan_111 : decode cX6_plan 111 = .ok (.invokevirtual 111, 3) := by decide +kernel
theorem dX6_plan_114 : decode cX6_plan 114 = .ok (.goto 12, 3) := by decide +kernel
theorem dX6_plan_117 : decode cX6_plan 117 = .ok (.aload_n 0, 1) := by decide +kernel
theorem dX6_plan_118 : decode cX6_plan 118 = .ok (.iload_n 3, 1) := by decide +kernel
theorem dX6_plan_119 : decode cX6_plan 119 = .ok (.iconst 5, 1) := by decide +kernel
theorem dX6_plan_120 : decode cX6_plan 120 = .ok (.sipush 400, 3) := by decide +kernel
theorem dX6_plan_123 : decode cX6_plan 123 = .ok (.invokevirtual 107, 3) := by decide +kernel
theorem dX6_plan_126 : decode cX6_plan 126 = .ok (.ireturn, 1) := by decide +kernel
set_option maxRecDepth 20000 in
theorem ggX6_sign_X6_isDay : GoodIn wsX6_sign wsX6_isDay := goodIn_r _ [8, 9, 10, 7, 11] (by decide +kernel) (by decide +kernel)
set_option maxRecDepth 20000 in
theorem gX6_sign_X6_isDay : GoodIn wsX6_sign (va_wsS RX6 64 yX6_isDay wsX6_isDay) := goodIn_app (goodIn_of _ (by decide +kernel)) ggX6_sign_X6_isDay
set_option maxRecDepth 20000 in
theorem ggX6_sign_X6_in : GoodIn wsX6_sign wsX6_in := goodIn_r _ [11] (by decide +kernel) (by decide +kernel)
set_option maxRecDepth 20000 in
theorem gX6_sign_X6_in : GoodIn wsX6_sign (va_wsS RX6 60 yX6_in wsX6_in) := goodIn_app (goodIn_of _ (by decide +kernel)) ggX6_sign_X6_in
theorem dX6_sign_0 : decode cX6_sign 0 = .ok (.aload_n 0, 1) := by decide +kernel
theorem dX6_sign_1 : decode cX6_sign 1 = .ok (.iconst 0, 1) := by decide +kernel
theorem dX6_sign_2 : decode cX6_sign 2 = .ok (.putfield 57, 3) := by decide +kernel
theorem dX6_sign_5 : decode cX6_sign 5 = .ok (.iload_n 1, 1) := by decide +kernel
theorem dX6_sign_6 : decode cX6_sign 6 = .ok (.invokestatic 64, 3) := by decide +kernel
theorem dX6_sign_9 : decode cX6_sign 9 = .ok (.ifCond .eq 13, 3) := by decide +kernel
theorem dX6_sign_12 : decode cX6_sign 12 = .ok (.iload_n 2, 1) := by decide +kernel
theorem dX6_sign_13 : decode cX6_sign 13 = .ok (.iconst 0, 1) := by decide +kernel
theorem dX6_sign_14 : decode cX6_sign 14 = .ok (.bipush 9, 2) := by decide +kernel
theorem dX6_sign_16 : decode cX6_sign 16 = .ok (.invokestatic 60, 3) := by decide +kernel
theorem dX6_sign_19 : decode cX6_sign 19 = .ok (.ifCond .ne 5, 3) := by decide +kernel
theorem dX6_sign_22 : decode cX6_sign 22 = .ok (.iconst (-1), 1) := by decide +kernel
theorem dX6_sign_23 : decode cX6_sign 23 = .ok (.ireturn, 1) := by decide +kernel
theorem dX6_sign_24 : decode cX6_sign 24 = .ok (.aload_n 0, 1) := by decide +kernel
theorem dX6_sign_25 : decode cX6_sign 25 = .ok (.getfield 114, 3) := by decide +kernel
theorem dX6_sign_28 : decode cX6_sign 28 = .ok (.bipush 12, 2) := by decide +kernel
theorem dX6_sign_30 : decode cX6_sign 30 = .ok (.if_icmp .ne 6, 3) := by decide +kernel
theorem dX6_sign_33 : decode cX6_sign 33 = .ok (.bipush (-3), 2) := by decide +kernel
theorem dX6_sign_35 : decode cX6_sign 35 = .ok (.ireturn, 1) := by decide +kernel
theorem dX6_sign_36 : decode cX6_sign 36 = .ok (.aload_n 0, 1) := by decide +kernel
theorem dX6_sign_37 : decode cX6_sign 37 = .ok (.getfield 45, 3) := by decide +kernel
theorem dX6_sign_40 : decode cX6_sign 40 = .ok (.aload_n 0, 1) := by decide +kernel
theorem dX6_sign_41 : decode cX6_sign 41 = .ok (.getfield 114, 3) := by decide +kernel
theorem dX6_sign_44 : decode cX6_sign 44 = .ok (.iload_n 1, 1) := by decide +kernel
theorem dX6_sign_45 : decode cX6_sign 45 = .ok (.iastore, 1) := by decide +kernel
theorem dX6_sign_46 : decode cX6_sign 46 = .ok (.aload_n 0, 1) := by decide +kernel
theorem dX6_sign_47 : decode cX6_sign 47 = .ok (.getfield 48, 3) := by decide +kernel
theorem dX6_sign_50 : decode cX6_sign 50 = .ok (.aload_n 0, 1) := by decide +kernel
theorem dX6_sign_51 : decode cX6_sign 51 = .ok (.getfield 114, 3) := by decide +kernel
theorem dX6_sign_54 : decode cX6_sign 54 = .ok (.iload_n 2, 1) := by decide +kernel
theorem dX6_sign_55 : decode cX6_sign 55 = .ok (.iastore, 1) := by decide +kernel
theorem dX6_sign_56 : decode cX6_sign 56 = .ok (.aload_n 0, 1) := by decide +kernel
theorem dX6_sign_57 : decode cX6_sign 57 = .ok (.dup, 1) := by decide +kernel
theorem dX6_sign_58 : decode cX6_sign 58 = .ok (.getfield 114, 3) := by decide +kernel
theorem dX6_sign_61 : decode cX6_sign 61 = .ok (.iconst 1, 1) := by decide +kernel
theorem dX6_sign_62 : decode cX6_sign 62 = .ok (.iadd, 1) := by decide +kernel
theorem dX6_sign_63 : decode cX6_sign 63 = .ok (.putfield 114, 3) := by decide +kernel
theorem dX6_sign_66 : decode cX6_sign 66 = .ok (.aload_n 0, 1) := by decide +kernel
theorem dX6_sign_67 : decode cX6_sign 67 = .ok (.getfield 114, 3) := by decide +kernel
theorem dX6_sign_70 : decode cX6_sign 70 = .ok (.ireturn, 1) := by decide +kernel
theorem dX6_forget_0 : decode cX6_forget 0 = .ok (.aload_n 0, 1) := by decide +kernel
theorem dX6_forget_1 : decode cX6_forget 1 = .ok (.iconst 0, 1) := by decide +kernel
theorem dX6_forget_2 : decode cX6_forget 2 = .ok (.putfield 57, 3) := by decide +kernel
theorem dX6_forget_5 : decode cX6_forget 5 = .ok (.aload_n 0, 1) := by decide +kernel
theorem dX6_forget_6 : decode cX6_forget 6 = .ok (.getfield 114, 3) := by decide +kernel
theorem dX6_forget_9 : decode cX6_forget 9 = .ok (.ifCond .ne 6, 3) := by decide +kernel
theorem dX6_forget_12 : decode cX6_forget 12 = .ok (.bipush (-2), 2) := by decide +kernel
theorem dX6_forget_14 : decode cX6_forget 14 = .ok (.ireturn, 1) := by decide +kernel
theorem dX6_forget_15 : decode cX6_forget 15 = .ok (.aload_n 0, 1) := by decide +kernel
theorem dX6_forget_16 : decode cX6_forget 16 = .ok (.dup, 1) := by decide +kernel
theorem dX6_forget_17 : decode cX6_forget 17 = .ok (.getfield 114, 3) := by decide +kernel
theorem dX6_forget_20 : decode cX6_forget 20 = .ok (.iconst 1, 1) := by decide +kernel
theorem dX6_forget_21 : decode cX6_forget 21 = .ok (.isub, 1) := by decide +kernel
theorem dX6_forget_22 : decode cX6_forget 22 = .ok (.putfield 114, 3) := by decide +kernel
theorem dX6_forget_25 : decode cX6_forget 25 = .ok (.aload_n 0, 1) := by decide +kernel
theorem dX6_forget_26 : decode cX6_forget 26 = .ok (.getfield 114, 3) := by decide +kernel
theorem dX6_forget_29 : decode cX6_forget 29 = .ok (.ireturn, 1) := by decide +kernel
set_option maxRecDepth 20000 in
theorem ggX6_empties_X6_bits : GoodIn wsX6_empties wsX6_bits := goodIn_r _ [7, 8, 9, 37, 38, 39, 40, 41, 42, 43, 44, 45, 46, 47, 48, 49, 50, 51, 52, 53, 54, 55] (by decide +kernel) (by decide +kernel)
set_option maxRecDepth 20000 in
theorem gX6_empties_X6_bits : GoodIn wsX6_empties (wsV RX6 103 RX6 yX6_bits wsX6_bits) := goodIn_app (goodIn_of _ (by decide +kernel)) ggX6_empties_X6_bits
set_option maxRecDepth 20000 in
theorem ggX6_empties_X6_drains : GoodIn wsX6_empties wsX6_drains := goodIn_r _ [13, 8, 14, 15, 16, 6, 17, 18, 19, 20, 21, 1, 22, 37, 38, 39, 40, 41, 42, 43, 44, 45, 46, 47, 48, 49, 50, 51, 52, 53, 54, 55] (by decide +kernel) (by decide +kernel)
set_option maxRecDepth 20000 in
theorem gX6_empties_X6_drains : GoodIn wsX6_empties (wsV RX6 93 RX6 yX6_drains wsX6_drains) := goodIn_app (goodIn_of _ (by decide +kernel)) ggX6_empties_X6_drains
set_option maxRecDepth 20000 in
theorem ggX6_empties_X6_behind : GoodIn wsX6_empties wsX6_behind := goodIn_r _ [26, 27, 28, 6, 29, 30, 31, 32, 33, 34, 35, 36, 37, 38, 39, 40, 41, 42, 43, 44, 45, 46, 47, 48, 49, 50, 51, 52, 53, 54, 55] (by decide +kernel) (by decide +kernel)
set_option maxRecDepth 20000 in
theorem gX6_empties_X6_behind : GoodIn wsX6_empties (wsV RX6 96 RX6 yX6_behind wsX6_behind) := goodIn_app (goodIn_of _ (by decide +kernel)) ggX6_empties_X6_behind
theorem dX6_empties_0 : decode cX6_empties 0 = .ok (.aload_n 0, 1) := by decide +kernel
theorem dX6_empties_1 : decode cX6_empties 1 = .ok (.getfield 7, 3) := by decide +kernel
theorem dX6_empties_4 : decode cX6_empties 4 = .ok (.iconst 1, 1) := by decide +kernel
theorem dX6_empties_5 : decode cX6_empties 5 = .ok (.iaload, 1) := by decide +kernel
theorem dX6_empties_6 : decode cX6_empties 6 = .ok (.iload_n 1, 1) := by decide +kernel
theorem dX6_empties_7 : decode cX6_empties 7 = .ok (.bipush 25, 2) := by decide +kernel
theorem dX6_empties_9 : decode cX6_empties 9 = .ok (.idiv, 1) := by decide +kernel
theorem dX6_empties_10 : decode cX6_empties 10 = .ok (.iadd, 1) := by decide +kernel
theorem dX6_empties_11 : decode cX6_empties 11 = .ok (.istore_n 2, 1) := by decide +kernel
theorem dX6_empties_12 : decode cX6_empties 12 = .ok (.aload_n 0, 1) := by decide +kernel
theorem dX6_empties_13 : decode cX6_empties 13 = .ok (.aload_n 0, 1) := by decide +kernel
theorem dX6_empties_14 : decode cX6_empties 14 = .ok (.invokevirtual 103, 3) := by decide +kernel
theorem dX6_empties_17 : decode cX6_empties 17 = .ok (.iload_n 1, 1) := by decide +kernel
theorem dX6_empties_18 : decode cX6_empties 18 = .ok (.iconst 5, 1) := by decide +kernel
theorem dX6_empties_19 : decode cX6_empties 19 = .ok (.idiv, 1) := by decide +kernel
theorem dX6_empties_20 : decode cX6_empties 20 = .ok (.iconst 5, 1) := by decide +kernel
theorem dX6_empties_21 : decode cX6_empties 21 = .ok (.irem, 1) := by decide +kernel
theorem dX6_empties_22 : decode cX6_empties 22 = .ok (.iconst 1, 1) := by decide +kernel
theorem dX6_empties_23 : decode cX6_empties 23 = .ok (.iadd, 1) := by decide +kernel
theorem dX6_empties_24 : decode cX6_empties 24 = .ok (.invokevirtual 93, 3) := by decide +kernel
theorem dX6_empties_27 : decode cX6_empties 27 = .ok (.bipush 20, 2) := by decide +kernel
theorem dX6_empties_29 : decode cX6_empties 29 = .ok (.iload_n 1, 1) := by decide +kernel
theorem dX6_empties_30 : decode cX6_empties 30 = .ok (.iconst 5, 1) := by decide +kernel
theorem dX6_empties_31 : decode cX6_empties 31 = .ok (.irem, 1) := by decide +kernel
theorem dX6_empties_32 : decode cX6_empties 32 = .ok (.imul, 1) := by decide +kernel
theorem dX6_empties_33 : decode cX6_empties 33 = .ok (.iadd, 1) := by decide +kernel
theorem dX6_empties_34 : decode cX6_empties 34 = .ok (.istore_n 3, 1) := by decide +kernel
theorem dX6_empties_35 : decode cX6_empties 35 = .ok (.sipush 1000, 3) := by decide +kernel
theorem dX6_empties_38 : decode cX6_empties 38 = .ok (.aload_n 0, 1) := by decide +kernel
theorem dX6_empties_39 : decode cX6_empties 39 = .ok (.getfield 7, 3) := by decide +kernel
theorem dX6_empties_42 : decode cX6_empties 42 = .ok (.iconst 0, 1) := by decide +kernel
theorem dX6_empties_43 : decode cX6_empties 43 = .ok (.iaload, 1) := by decide +kernel
theorem dX6_empties_44 : decode cX6_empties 44 = .ok (.imul, 1) := by decide +kernel
theorem dX6_empties_45 : decode cX6_empties 45 = .ok (.istore 4, 2) := by decide +kernel
theorem dX6_empties_47 : decode cX6_empties 47 = .ok (.iload 4, 2) := by decide +kernel
theorem dX6_empties_49 : decode cX6_empties 49 = .ok (.istore 5, 2) := by decide +kernel
theorem dX6_empties_51 : decode cX6_empties 51 = .ok (.iconst 0, 1) := by decide +kernel
theorem dX6_empties_52 : decode cX6_empties 52 = .ok (.istore 6, 2) := by decide +kernel
theorem dX6_empties_54 : decode cX6_empties 54 = .ok (.iload 6, 2) := by decide +kernel
theorem dX6_empties_56 : decode cX6_empties 56 = .ok (.sipush 400, 3) := by decide +kernel
theorem dX6_empties_59 : decode cX6_empties 59 = .ok (.if_icmp .ge 75, 3) := by decide +kernel
theorem dX6_empties_62 : decode cX6_empties 62 = .ok (.iload 5, 2) := by decide +kernel
theorem dX6_empties_64 : decode cX6_empties 64 = .ok (.ifCond .ge 7, 3) := by decide +kernel
theorem dX6_empties_67 : decode cX6_empties 67 = .ok (.iconst 0, 1) := by decide +kernel
theorem dX6_empties_68 : decode cX6_empties 68 = .ok (.goto 15, 3) := by decide +kernel
theorem dX6_empties_71 : decode cX6_empties 71 = .ok (.iload 5, 2) := by decide +kernel
theorem dX6_empties_73 : decode cX6_empties 73 = .ok (.bipush 100, 2) := by decide +kernel
theorem dX6_empties_75 : decode cX6_empties 75 = .ok (.idiv, 1) := by decide +kernel
theorem dX6_empties_76 : decode cX6_empties 76 = .ok (.aload_n 0, 1) := by decide +kernel
theorem dX6_empties_77 : decode cX6_empties 77 = .ok (.getfield 7, 3) := by decide +kernel
theorem dX6_empties_80 : decode cX6_empties 80 = .ok (.iconst 0, 1) := by decide +kernel
theorem dX6_empties_81 : decode cX6_empties 81 = .ok (.iaload, 1) := by decide +kernel
theorem dX6_empties_82 : decode cX6_empties 82 = .ok (.idiv, 1) := by decide +kernel
theorem dX6_empties_83 : decode cX6_empties 83 = .ok (.istore 7, 2) := by decide +kernel
theorem dX6_empties_85 : decode cX6_empties 85 = .ok (.aload_n 0, 1) := by decide +kernel
theorem dX6_empties_86 : decode cX6_empties 86 = .ok (.getfield 51, 3) := by decide +kernel
theorem dX6_empties_89 : decode cX6_empties 89 = .ok (.iload 6, 2) := by decide +kernel
theorem dX6_empties_91 : decode cX6_empties 91 = .ok (.iload 7, 2) := by decide +kernel
theorem dX6_empties_93 : decode cX6_empties 93 = .ok (.bipush 9, 2) := by decide +kernel
theorem dX6_empties_95 : decode cX6_empties 95 = .ok (.if_icmp .le 8, 3) := by decide +kernel
theorem dX6_empties_98 : decode cX6_empties 98 = .ok (.bipush 9, 2) := by decide +kernel
theorem dX6_empties_100 : decode cX6_empties 100 = .ok (.goto 5, 3) := by decide +kernel
theorem dX6_empties_103 : decode cX6_empties 103 = .ok (.iload 7, 2) := by decide +kernel
theorem dX6_empties_105 : decode cX6_empties 105 = .ok (.iastore, 1) := by decide +kernel
theorem dX6_empties_106 : decode cX6_empties 106 = .ok (.iload 5, 2) := by decide +kernel
theorem dX6_empties_108 : decode cX6_empties 108 = .ok (.ifCond .ge 8, 3) := by decide +kernel
theorem dX6_empties_111 : decode cX6_empties 111 = .ok (.iload 5, 2) := by decide +kernel
theorem dX6_empties_113 : decode cX6_empties 113 = .ok (.goto 13, 3) := by decide +kernel
theorem dX6_empties_116 : decode cX6_empties 116 = .ok (.aload_n 0, 1) := by decide +kernel
theorem dX6_empties_117 : decode cX6_empties 117 = .ok (.iload 5, 2) := by decide +kernel
theorem dX6_empties_119 : decode cX6_empties 119 = .ok (.iload 6, 2) := by decide +kernel
theorem dX6_empties_121 : decode cX6_empties 121 = .ok (.iload_n 2, 1) := by decide +kernel
theorem dX6_empties_122 : decode cX6_empties 122 = .ok (.iload_n 3, 1) := by decide +kernel
theorem dX6_empties_123 : decode cX6_empties 123 = .ok (.invokevirtual 96, 3) := by decide +kernel
theorem dX6_empties_126 : decode cX6_empties 126 = .ok (.istore 5, 2) := by decide +kernel
theorem dX6_empties_128 : decode cX6_empties 128 = .ok (.iinc 6 1, 3) := by decide +kernel
theorem dX6_empties_131 : decode cX6_empties 131 = .ok (.goto (-77), 3) := by decide +kernel
theorem dX6_empties_134 : decode cX6_empties 134 = .ok (.return_, 1) := by decide +kernel
set_option maxRecDepth 20000 in
theorem ggX6_isCase_X6_in : GoodIn wsX6_isCase wsX6_in := goodIn_r _ [4] (by decide +kernel) (by decide +kernel)
set_option maxRecDepth 20000 in
theorem gX6_isCase_X6_in : GoodIn wsX6_isCase (va_wsS RX6 60 yX6_in wsX6_in) := goodIn_app (goodIn_of _ (by decide +kernel)) ggX6_isCase_X6_in
theorem dX6_isCase_0 : decode cX6_isCase 0 = .ok (.iload_n 0, 1) := by decide +kernel
theorem dX6_isCase_1 : decode cX6_isCase 1 = .ok (.iconst 0, 1) := by decide +kernel
theorem dX6_isCase_2 : decode cX6_isCase 2 = .ok (.sipush 149, 3) := by decide +kernel
theorem dX6_isCase_5 : decode cX6_isCase 5 = .ok (.invokestatic 60, 3) := by decide +kernel
theorem dX6_isCase_8 : decode cX6_isCase 8 = .ok (.ireturn, 1) := by decide +kernel
set_option maxRecDepth 20000 in
theorem ggX6_level_X6_isCase : GoodIn wsX6_level wsX6_isCase := goodIn_r _ [6, 7, 8, 5, 9] (by decide +kernel) (by decide +kernel)
set_option maxRecDepth 20000 in
theorem gX6_level_X6_isCase : GoodIn wsX6_level (va_wsS RX6 117 yX6_isCase wsX6_isCase) := goodIn_app (goodIn_of _ (by decide +kernel)) ggX6_level_X6_isCase
set_option maxRecDepth 20000 in
theorem ggX6_level_X6_isDay : GoodIn wsX6_level wsX6_isDay := goodIn_r _ [12, 7, 8, 5, 9] (by decide +kernel) (by decide +kernel)
set_option maxRecDepth 20000 in
theorem gX6_level_X6_isDay : GoodIn wsX6_level (va_wsS RX6 64 yX6_isDay wsX6_isDay) := goodIn_app (goodIn_of _ (by decide +kernel)) ggX6_level_X6_isDay
set_option maxRecDepth 20000 in
theorem ggX6_level_X6_empties : GoodIn wsX6_level wsX6_empties := goodIn_r _ [16, 17, 2, 18, 19, 20, 5, 21, 22, 23, 24, 25, 26, 27, 28, 29, 30, 31, 32, 33, 34, 35, 36, 37, 38, 39, 40, 41, 42, 43, 44, 45, 46, 47, 48, 49, 50, 51, 52, 53, 54, 55, 56, 57, 58, 59, 60, 61, 62, 63, 64, 65, 66, 67, 68, 69] (by decide +kernel) (by decide +kernel)
set_option maxRecDepth 20000 in
theorem gX6_level_X6_empties : GoodIn wsX6_level (wsV RX6 120 RX6 yX6_empties wsX6_empties) := goodIn_app (goodIn_of _ (by decide +kernel)) ggX6_level_X6_empties
theorem dX6_level_0 : decode cX6_level 0 = .ok (.aload_n 0, 1) := by decide +kernel
theorem dX6_level_1 : decode cX6_level 1 = .ok (.iconst 0, 1) := by decide +kernel
theorem dX6_level_2 : decode cX6_level 2 = .ok (.putfield 57, 3) := by decide +kernel
theorem dX6_level_5 : decode cX6_level 5 = .ok (.iload_n 1, 1) := by decide +kernel
theorem dX6_level_6 : decode cX6_level 6 = .ok (.invokestatic 117, 3) := by decide +kernel
theorem dX6_level_9 : decode cX6_level 9 = .ok (.ifCond .eq 10, 3) := by decide +kernel
theorem dX6_level_12 : decode cX6_level 12 = .ok (.iload_n 2, 1) := by decide +kernel
theorem dX6_level_13 : decode cX6_level 13 = .ok (.invokestatic 64, 3) := by decide +kernel
theorem dX6_level_16 : decode cX6_level 16 = .ok (.ifCond .ne 5, 3) := by decide +kernel
theorem dX6_level_19 : decode cX6_level 19 = .ok (.iconst (-1), 1) := by decide +kernel
theorem dX6_level_20 : decode cX6_level 20 = .ok (.ireturn, 1) := by decide +kernel
theorem dX6_level_21 : decode cX6_level 21 = .ok (.aload_n 0, 1) := by decide +kernel
theorem dX6_level_22 : decode cX6_level 22 = .ok (.iload_n 1, 1) := by decide +kernel
theorem dX6_level_23 : decode cX6_level 23 = .ok (.invokevirtual 120, 3) := by decide +kernel
theorem dX6_level_26 : decode cX6_level 26 = .ok (.aload_n 0, 1) := by decide +kernel
theorem dX6_level_27 : decode cX6_level 27 = .ok (.getfield 51, 3) := by decide +kernel
theorem dX6_level_30 : decode cX6_level 30 = .ok (.iload_n 2, 1) := by decide +kernel
theorem dX6_level_31 : decode cX6_level 31 = .ok (.iaload, 1) := by decide +kernel
theorem dX6_level_32 : decode cX6_level 32 = .ok (.ireturn, 1) := by decide +kernel
set_option maxRecDepth 20000 in
theorem ggX6_isAgreeing_X6_empties : GoodIn wsX6_isAgreeing wsX6_empties := goodIn_r _ [9, 10, 2, 11, 12, 13, 8, 14, 15, 16, 17, 18, 19, 20, 21, 22, 23, 24, 25, 26, 27, 28, 29, 30, 31, 32, 33, 34, 35, 36, 37, 38, 39, 40, 41, 42, 43, 44, 45, 46, 47, 48, 49, 50, 51, 52, 53, 54, 55, 56, 57, 58, 59, 60, 61, 62] (by decide +kernel) (by decide +kernel)
set_option maxRecDepth 20000 in
theorem gX6_isAgreeing_X6_empties : GoodIn wsX6_isAgreeing (wsV RX6 120 RX6 yX6_empties wsX6_empties) := goodIn_app (goodIn_of _ (by decide +kernel)) ggX6_isAgreeing_X6_empties
theorem dX6_isAgreeing_0 : decode cX6_isAgreeing 0 = .ok (.aload_n 0, 1) := by decide +kernel
theorem dX6_isAgreeing_1 : decode cX6_isAgreeing 1 = .ok (.iload_n 1, 1) := by decide +kernel
theorem dX6_isAgreeing_2 : decode cX6_isAgreeing 2 = .ok (.invokevirtual 120, 3) := by decide +kernel
theorem dX6_isAgreeing_5 : decode cX6_isAgreeing 5 = .ok (.iconst 1, 1) := by decide +kernel
theorem dX6_isAgreeing_6 : decode cX6_isAgreeing 6 = .ok (.istore_n 2, 1) := by decide +kernel
theorem dX6_isAgreeing_7 : decode cX6_isAgreeing 7 = .ok (.iconst 0, 1) := by decide +kernel
theorem dX6_isAgreeing_8 : decode cX6_isAgreeing 8 = .ok (.istore_n 3, 1) := by decide +kernel
theorem dX6_isAgreeing_9 : decode cX6_isAgreeing 9 = .ok (.iload_n 3, 1) := by decide +kernel
theorem dX6_isAgreeing_10 : decode cX6_isAgreeing 10 = .ok (.aload_n 0, 1) := by decide +kernel
theorem dX6_isAgreeing_11 : decode cX6_isAgreeing 11 = .ok (.getfield 114, 3) := by decide +kernel
theorem dX6_isAgreeing_14 : decode cX6_isAgreeing 14 = .ok (.if_icmp .ge 37, 3) := by decide +kernel
theorem dX6_isAgreeing_17 : decode cX6_isAgreeing 17 = .ok (.iload_n 2, 1) := by decide +kernel
theorem dX6_isAgreeing_18 : decode cX6_isAgreeing 18 = .ok (.aload_n 0, 1) := by decide +kernel
theorem dX6_isAgreeing_19 : decode cX6_isAgreeing 19 = .ok (.getfield 51, 3) := by decide +kernel
theorem dX6_isAgreeing_22 : decode cX6_isAgreeing 22 = .ok (.aload_n 0, 1) := by decide +kernel
theorem dX6_isAgreeing_23 : decode cX6_isAgreeing 23 = .ok (.getfield 45, 3) := by decide +kernel
theorem dX6_isAgreeing_26 : decode cX6_isAgreeing 26 = .ok (.iload_n 3, 1) := by decide +kernel
theorem dX6_isAgreeing_27 : decode cX6_isAgreeing 27 = .ok (.iaload, 1) := by decide +kernel
theorem dX6_isAgreeing_28 : decode cX6_isAgreeing 28 = .ok (.iaload, 1) := by decide +kernel
theorem dX6_isAgreeing_29 : decode cX6_isAgreeing 29 = .ok (.aload_n 0, 1) := by decide +kernel
theorem dX6_isAgreeing_30 : decode cX6_isAgreeing 30 = .ok (.getfield 48, 3) := by decide +kernel
theorem dX6_isAgreeing_33 : decode cX6_isAgreeing 33 = .ok (.iload_n 3, 1) := by decide +kernel
theorem dX6_isAgreeing_34 : decode cX6_isAgreeing 34 = .ok (.iaload, 1) := by decide +kernel
theorem dX6_isAgreeing_35 : decode cX6_isAgreeing 35 = .ok (.if_icmp .ne 7, 3) := by decide +kernel
theorem dX6_isAgreeing_38 : decode cX6_isAgreeing 38 = .ok (.iconst 1, 1) := by decide +kernel
theorem dX6_isAgreeing_39 : decode cX6_isAgreeing 39 = .ok (.goto 4, 3) := by decide +kernel
theorem dX6_isAgreeing_42 : decode cX6_isAgreeing 42 = .ok (.iconst 0, 1) := by decide +kernel
theorem dX6_isAgreeing_43 : decode cX6_isAgreeing 43 = .ok (.iand, 1) := by decide +kernel
theorem dX6_isAgreeing_44 : decode cX6_isAgreeing 44 = .ok (.istore_n 2, 1) := by decide +kernel
theorem dX6_isAgreeing_45 : decode cX6_isAgreeing 45 = .ok (.iinc 3 1, 3) := by decide +kernel
theorem dX6_isAgreeing_48 : decode cX6_isAgreeing 48 = .ok (.goto (-39), 3) := by decide +kernel
theorem dX6_isAgreeing_51 : decode cX6_isAgreeing 51 = .ok (.iload_n 2, 1) := by decide +kernel
theorem dX6_isAgreeing_52 : decode cX6_isAgreeing 52 = .ok (.ireturn, 1) := by decide +kernel
set_option maxRecDepth 20000 in
theorem ggX6_agrees_X6_isCase : GoodIn wsX6_agrees wsX6_isCase := goodIn_r _ [5, 6, 7, 4, 8] (by decide +kernel) (by decide +kernel)
set_option maxRecDepth 20000 in
theorem gX6_agrees_X6_isCase : GoodIn wsX6_agrees (va_wsS RX6 117 yX6_isCase wsX6_isCase) := goodIn_app (goodIn_of _ (by decide +kernel)) ggX6_agrees_X6_isCase
set_option maxRecDepth 20000 in
theorem ggX6_agrees_X6_isAgreeing : GoodIn wsX6_agrees wsX6_isAgreeing := goodIn_r _ [12, 13, 14, 15, 16, 17, 18, 19, 4, 20, 21, 22, 23, 24, 25, 26, 27, 28, 29, 30, 31, 32, 33, 34, 35, 36, 37, 38, 39, 40, 41, 42, 43, 44, 45, 46, 47, 48, 49, 50, 51, 52, 53, 54, 55, 56, 57, 58, 59, 60, 61, 62, 63, 64, 65, 66, 67, 68, 69, 70, 71, 72, 73] (by decide +kernel) (by decide +kernel)
set_option maxRecDepth 20000 in
theorem gX6_agrees_X6_isAgreeing : GoodIn wsX6_agrees (wsV RX6 124 RX6 yX6_isAgreeing wsX6_isAgreeing) := goodIn_app (goodIn_of _ (by decide +kernel)) ggX6_agrees_X6_isAgreeing
theorem dX6_agrees_0 : decode cX6_agrees 0 = .ok (.aload_n 0, 1) := by decide +kernel
theorem dX6_agrees_1 : decode cX6_agrees 1 = .ok (.iconst 0, 1) := by decide +kernel
theorem dX6_agrees_2 : decode cX6_agrees 2 = .ok (.putfield 57, 3) := by decide +kernel
theorem dX6_agrees_5 : decode cX6_agrees 5 = .ok (.iload_n 1, 1) := by decide +kernel
theorem dX6_agrees_6 : decode cX6_agrees 6 = .ok (.invokestatic 117, 3) := by decide +kernel
theorem dX6_agrees_9 : decode cX6_agrees 9 = .ok (.ifCond .ne 7, 3) := by decide +kernel
theorem dX6_agrees_12 : decode cX6_agrees 12 = .ok (.iconst (-1), 1) := by decide +kernel
theorem dX6_agrees_13 : decode cX6_agrees 13 = .ok (.goto 16, 3) := by decide +kernel
theorem dX6_agrees_16 : decode cX6_agrees 16 = .ok (.aload_n 0, 1) := by decide +kernel
theorem dX6_agrees_17 : decode cX6_agrees 17 = .ok (.iload_n 1, 1) := by decide +kernel
theorem dX6_agrees_18 : decode cX6_agrees 18 = .ok (.invokevirtual 124, 3) := by decide +kernel
theorem dX6_agrees_21 : decode cX6_agrees 21 = .ok (.ifCond .eq 7, 3) := by decide +kernel
theorem dX6_agrees_24 : decode cX6_agrees 24 = .ok (.iconst 1, 1) := by decide +kernel
theorem dX6_agrees_25 : decode cX6_agrees 25 = .ok (.goto 4, 3) := by decide +kernel
theorem dX6_agrees_28 : decode cX6_agrees 28 = .ok (.iconst 0, 1) := by decide +kernel
theorem dX6_agrees_29 : decode cX6_agrees 29 = .ok (.ireturn, 1) := by decide +kernel
set_option maxRecDepth 20000 in
theorem ggX6_field_X6_in : GoodIn wsX6_field wsX6_in := goodIn_r _ [7] (by decide +kernel) (by decide +kernel)
set_option maxRecDepth 20000 in
theorem gX6_field_X6_in : GoodIn wsX6_field (va_wsS RX6 60 yX6_in wsX6_in) := goodIn_app (goodIn_of _ (by decide +kernel)) ggX6_field_X6_in
set_option maxRecDepth 20000 in
theorem ggX6_field_X6_isAgreeing : GoodIn wsX6_field wsX6_isAgreeing := goodIn_r _ [11, 12, 3, 13, 14, 15, 16, 17, 6, 18, 19, 20, 21, 22, 23, 24, 25, 26, 27, 28, 29, 30, 31, 32, 33, 34, 35, 36, 37, 38, 39, 40, 41, 42, 43, 44, 45, 46, 47, 48, 49, 50, 51, 52, 53, 54, 55, 56, 57, 58, 59, 60, 61, 62, 63, 64, 65, 66, 67, 68, 69, 70, 71] (by decide +kernel) (by decide +kernel)
set_option maxRecDepth 20000 in
theorem gX6_field_X6_isAgreeing : GoodIn wsX6_field (wsV RX6 124 RX6 yX6_isAgreeing wsX6_isAgreeing) := goodIn_app (goodIn_of _ (by decide +kernel)) ggX6_field_X6_isAgreeing
theorem dX6_field_0 : decode cX6_field 0 = .ok (.aload_n 0, 1) := by decide +kernel
theorem dX6_field_1 : decode cX6_field 1 = .ok (.iconst 0, 1) := by decide +kernel
theorem dX6_field_2 : decode cX6_field 2 = .ok (.putfield 57, 3) := by decide +kernel
theorem dX6_field_5 : decode cX6_field 5 = .ok (.iload_n 1, 1) := by decide +kernel
theorem dX6_field_6 : decode cX6_field 6 = .ok (.iconst 0, 1) := by decide +kernel
theorem dX6_field_7 : decode cX6_field 7 = .ok (.iconst 3, 1) := by decide +kernel
theorem dX6_field_8 : decode cX6_field 8 = .ok (.invokestatic 60, 3) := by decide +kernel
theorem dX6_field_11 : decode cX6_field 11 = .ok (.ifCond .ne 5, 3) := by decide +kernel
theorem dX6_field_14 : decode cX6_field 14 = .ok (.iconst (-1), 1) := by decide +kernel
theorem dX6_field_15 : decode cX6_field 15 = .ok (.ireturn, 1) := by decide +kernel
theorem dX6_field_16 : decode cX6_field 16 = .ok (.iconst 0, 1) := by decide +kernel
theorem dX6_field_17 : decode cX6_field 17 = .ok (.istore_n 2, 1) := by decide +kernel
theorem dX6_field_18 : decode cX6_field 18 = .ok (.iload_n 2, 1) := by decide +kernel
theorem dX6_field_19 : decode cX6_field 19 = .ok (.sipush 4000, 3) := by decide +kernel
theorem dX6_field_22 : decode cX6_field 22 = .ok (.if_icmp .ge 16, 3) := by decide +kernel
theorem dX6_field_25 : decode cX6_field 25 = .ok (.aload_n 0, 1) := by decide +kernel
theorem dX6_field_26 : decode cX6_field 26 = .ok (.getfield 54, 3) := by decide +kernel
theorem dX6_field_29 : decode cX6_field 29 = .ok (.iload_n 2, 1) := by decide +kernel
theorem dX6_field_30 : decode cX6_field 30 = .ok (.iconst 0, 1) := by decide +kernel
theorem dX6_field_31 : decode cX6_field 31 = .ok (.iastore, 1) := by decide +kernel
theorem dX6_field_32 : decode cX6_field 32 = .ok (.iinc 2 1, 3) := by decide +kernel
theorem dX6_field_35 : decode cX6_field 35 = .ok (.goto (-17), 3) := by decide +kernel
theorem dX6_field_38 : decode cX6_field 38 = .ok (.iconst 0, 1) := by decide +kernel
theorem dX6_field_39 : decode cX6_field 39 = .ok (.istore_n 2, 1) := by decide +kernel
theorem dX6_field_40 : decode cX6_field 40 = .ok (.bipush (-9), 2) := by decide +kernel
theorem dX6_field_42 : decode cX6_field 42 = .ok (.istore_n 3, 1) := by decide +kernel
theorem dX6_field_43 : decode cX6_field 43 = .ok (.iconst 0, 1) := by decide +kernel
theorem dX6_field_44 : decode cX6_field 44 = .ok (.istore 4, 2) := by decide +kernel
theorem dX6_field_46 : decode cX6_field 46 = .ok (.iconst 0, 1) := by decide +kernel
theorem dX6_field_47 : decode cX6_field 47 = .ok (.istore 5, 2) := by decide +kernel
theorem dX6_field_49 : decode cX6_field 49 = .ok (.iload 5, 2) := by decide +kernel
theorem dX6_field_51 : decode cX6_field 51 = .ok (.sipush 150, 3) := by decide +kernel
theorem dX6_field_54 : decode cX6_field 54 = .ok (.if_icmp .ge 90, 3) := by decide +kernel
theorem dX6_field_57 : decode cX6_field 57 = .ok (.aload_n 0, 1) := by decide +kernel
theorem dX6_field_58 : decode cX6_field 58 = .ok (.iload 5, 2) := by decide +kernel
theorem dX6_field_60 : decode cX6_field 60 = .ok (.invokevirtual 124, 3) := by decide +kernel
theorem dX6_field_63 : decode cX6_field 63 = .ok (.ifCond .eq 75, 3) := by decide +kernel
theorem dX6_field_66 : decode cX6_field 66 = .ok (.iinc 2 1, 3) := by decide +kernel
theorem dX6_field_69 : decode cX6_field 69 = .ok (.iload_n 3, 1) := by decide +kernel
theorem dX6_field_70 : decode cX6_field 70 = .ok (.bipush (-9), 2) := by decide +kernel
theorem dX6_field_72 : decode cX6_field 72 = .ok (.if_icmp .ne 8, 3) := by decide +kernel
theorem dX6_field_75 : decode cX6_field 75 = .ok (.iload 5, 2) := by decide +kernel
theorem dX6_field_77 : decode cX6_field 77 = .ok (.goto 4, 3) := by decide +kernel
theorem dX6_field_80 : decode cX6_field 80 = .ok (.iload_n 3, 1) := by decide +kernel
theorem dX6_field_81 : decode cX6_field 81 = .ok (.istore_n 3, 1) := by decide +kernel
theorem dX6_field_82 : decode cX6_field 82 = .ok (.iload 4, 2) := by decide +kernel
theorem dX6_field_84 : decode cX6_field 84 = .ok (.iload 5, 2) := by decide +kernel
theorem dX6_field_86 : decode cX6_field 86 = .ok (.iconst 5, 1) := by decide +kernel
theorem dX6_field_87 : decode cX6_field 87 = .ok (.irem, 1) := by decide +kernel
theorem dX6_field_88 : decode cX6_field 88 = .ok (.ifCond .ne 7, 3) := by decide +kernel
theorem dX6_field_91 : decode cX6_field 91 = .ok (.iconst 1, 1) := by decide +kernel
theorem dX6_field_92 : decode cX6_field 92 = .ok (.goto 4, 3) := by decide +kernel
theorem dX6_field_95 : decode cX6_field 95 = .ok (.iconst 0, 1) := by decide +kernel
theorem dX6_field_96 : decode cX6_field 96 = .ok (.ior, 1) := by decide +kernel
theorem dX6_field_97 : decode cX6_field 97 = .ok (.istore 4, 2) := by decide +kernel
theorem dX6_field_99 : decode cX6_field 99 = .ok (.iconst 0, 1) := by decide +kernel
theorem dX6_field_100 : decode cX6_field 100 = .ok (.istore 6, 2) := by decide +kernel
theorem dX6_field_102 : decode cX6_field 102 = .ok (.iload 6, 2) := by decide +kernel
theorem dX6_field_104 : decode cX6_field 104 = .ok (.sipush 400, 3) := by decide +kernel
theorem dX6_field_107 : decode cX6_field 107 = .ok (.if_icmp .ge 31, 3) := by decide +kernel
theorem dX6_field_110 : decode cX6_field 110 = .ok (.aload_n 0, 1) := by decide +kernel
theorem dX6_field_111 : decode cX6_field 111 = .ok (.getfield 54, 3) := by decide +kernel
theorem dX6_field_114 : decode cX6_field 114 = .ok (.bipush 10, 2) := by decide +kernel
theorem dX6_field_116 : decode cX6_field 116 = .ok (.iload 6, 2) := by decide +kernel
theorem dX6_field_118 : decode cX6_field 118 = .ok (.imul, 1) := by decide +kernel
theorem dX6_field_119 : decode cX6_field 119 = .ok (.aload_n 0, 1) := by decide +kernel
theorem dX6_field_120 : decode cX6_field 120 = .ok (.getfield 51, 3) := by decide +kernel
theorem dX6_field_123 : decode cX6_field 123 = .ok (.iload 6, 2) := by decide +kernel
theorem dX6_field_125 : decode cX6_field 125 = .ok (.iaload, 1) := by decide +kernel
theorem dX6_field_126 : decode cX6_field 126 = .ok (.iadd, 1) := by decide +kernel
theorem dX6_field_127 : decode cX6_field 127 = .ok (.dup2, 1) := by decide +kernel
theorem dX6_field_128 : decode cX6_field 128 = .ok (.iaload, 1) := by decide +kernel
theorem dX6_field_129 : decode cX6_field 129 = .ok (.iconst 1, 1) := by decide +kernel
theorem dX6_field_130 : decode cX6_field 130 = .ok (.iadd, 1) := by decide +kernel
theorem dX6_field_131 : decode cX6_field 131 = .ok (.iastore, 1) := by decide +kernel
theorem dX6_field_132 : decode cX6_field 132 = .ok (.iinc 6 1, 3) := by decide +kernel
theorem dX6_field_135 : decode cX6_field 135 = .ok (.goto (-33), 3) := by decide +kernel
theorem dX6_field_138 : decode cX6_field 138 = .ok (.iinc 5 1, 3) := by decide +kernel
theorem dX6_field_141 : decode cX6_field 141 = .ok (.goto (-92), 3) := by decide +kernel
theorem dX6_field_144 : decode cX6_field 144 = .ok (.iload_n 1, 1) := by decide +kernel
theorem dX6_field_145 : decode cX6_field 145 = .ok (.iconst 3, 1) := by decide +kernel
theorem dX6_field_146 : decode cX6_field 146 = .ok (.if_icmp .ge 35, 3) := by decide +kernel
theorem dX6_field_149 : decode cX6_field 149 = .ok (.iload_n 1, 1) := by decide +kernel
theorem dX6_field_150 : decode cX6_field 150 = .ok (.ifCond .ne 7, 3) := by decide +kernel
theorem dX6_field_153 : decode cX6_field 153 = .ok (.iload_n 2, 1) := by decide +kernel
theorem dX6_field_154 : decode cX6_field 154 = .ok (.goto 26, 3) := by decide +kernel
theorem dX6_field_157 : decode cX6_field 157 = .ok (.iload_n 1, 1) := by decide +kernel
theorem dX6_field_158 : decode cX6_field 158 = .ok (.iconst 1, 1) := by decide +kernel
theorem dX6_field_159 : decode cX6_field 159 = .ok (.if_icmp .ne 7, 3) := by decide +kernel
theorem dX6_field_162 : decode cX6_field 162 = .ok (.iload_n 3, 1) := by decide +kernel
theorem dX6_field_163 : decode cX6_field 163 = .ok (.goto 17, 3) := by decide +kernel
theorem dX6_field_166 : decode cX6_field 166 = .ok (.iload_n 2, 1) := by decide +kernel
theorem dX6_field_167 : decode cX6_field 167 = .ok (.ifCond .le 12, 3) := by decide +kernel
theorem dX6_field_170 : decode cX6_field 170 = .ok (.iload 4, 2) := by decide +kernel
theorem dX6_field_172 : decode cX6_field 172 = .ok (.ifCond .ne 7, 3) := by decide +kernel
theorem dX6_field_175 : decode cX6_field 175 = .ok (.iconst 1, 1) := by decide +kernel
theorem dX6_field_176 : decode cX6_field 176 = .ok (.goto 4, 3) := by decide +kernel
theorem dX6_field_179 : decode cX6_field 179 = .ok (.iconst 0, 1) := by decide +kernel
theorem dX6_field_180 : decode cX6_field 180 = .ok (.ireturn, 1) := by decide +kernel
theorem dX6_field_181 : decode cX6_field 181 = .ok (.bipush (-9), 2) := by decide +kernel
theorem dX6_field_183 : decode cX6_field 183 = .ok (.istore 5, 2) := by decide +kernel
theorem dX6_field_185 : decode cX6_field 185 = .ok (.iconst 0, 1) := by decide +kernel
theorem dX6_field_186 : decode cX6_field 186 = .ok (.istore 6, 2) := by decide +kernel
theorem dX6_field_188 : decode cX6_field 188 = .ok (.iconst 0, 1) := by decide +kernel
theorem dX6_field_189 : decode cX6_field 189 = .ok (.istore 7, 2) := by decide +kernel
theorem dX6_field_191 : decode cX6_field 191 = .ok (.iload 7, 2) := by decide +kernel
theorem dX6_field_193 : decode cX6_field 193 = .ok (.sipush 400, 3) := by decide +kernel
theorem dX6_field_196 : decode cX6_field 196 = .ok (.if_icmp .ge 93, 3) := by decide +kernel
theorem dX6_field_199 : decode cX6_field 199 = .ok (.iload_n 2, 1) := by decide +kernel
theorem dX6_field_200 : decode cX6_field 200 = .ok (.iconst 1, 1) := by decide +kernel
theorem dX6_field_201 : decode cX6_field 201 = .ok (.if_icmp .le 88, 3) := by decide +kernel
theorem dX6_field_204 : decode cX6_field 204 = .ok (.iconst 0, 1) := by decide +kernel
theorem dX6_field_205 : decode cX6_field 205 = .ok (.istore 8, 2) := by decide +kernel
theorem dX6_field_207 : decode cX6_field 207 = .ok (.iconst 0, 1) := by decide +kernel
theorem dX6_field_208 : decode cX6_field 208 = .ok (.istore 9, 2) := by decide +kernel
theorem dX6_field_210 : decode cX6_field 210 = .ok (.iload 9, 2) := by decide +kernel
theorem dX6_field_212 : decode cX6_field 212 = .ok (.bipush 10, 2) := by decide +kernel
theorem dX6_field_214 : decode cX6_field 214 = .ok (.if_icmp .ge 47, 3) := by decide +kernel
theorem dX6_field_217 : decode cX6_field 217 = .ok (.aload_n 0, 1) := by decide +kernel
theorem dX6_field_218 : decode cX6_field 218 = .ok (.getfield 54, 3) := by decide +kernel
theorem dX6_field_221 : decode cX6_field 221 = .ok (.bipush 10, 2) := by decide +kernel
theorem dX6_field_223 : decode cX6_field 223 = .ok (.iload 7, 2) := by decide +kernel
theorem dX6_field_225 : decode cX6_field 225 = .ok (.imul, 1) := by decide +kernel
theorem dX6_field_226 : decode cX6_field 226 = .ok (.iload 9, 2) := by decide +kernel
theorem dX6_field_228 : decode cX6_field 228 = .ok (.iadd, 1) := by decide +kernel
theorem dX6_field_229 : decode cX6_field 229 = .ok (.iaload, 1) := by decide +kernel
theorem dX6_field_230 : decode cX6_field 230 = .ok (.iload 8, 2) := by decide +kernel
theorem dX6_field_232 : decode cX6_field 232 = .ok (.if_icmp .le 19, 3) := by decide +kernel
theorem dX6_field_235 : decode cX6_field 235 = .ok (.aload_n 0, 1) := by decide +kernel
theorem dX6_field_236 : decode cX6_field 236 = .ok (.getfield 54, 3) := by decide +kernel
theorem dX6_field_239 : decode cX6_field 239 = .ok (.bipush 10, 2) := by decide +kernel
theorem dX6_field_241 : decode cX6_field 241 = .ok (.iload 7, 2) := by decide +kernel
theorem dX6_field_243 : decode cX6_field 243 = .ok (.imul, 1) := by decide +kernel
theorem dX6_field_244 : decode cX6_field 244 = .ok (.iload 9, 2) := by decide +kernel
theorem dX6_field_246 : decode cX6_field 246 = .ok (.iadd, 1) := by decide +kernel
theorem dX6_field_247 : decode cX6_field 247 = .ok (.iaload, 1) := by decide +kernel
theorem dX6_field_248 : decode cX6_field 248 = .ok (.goto 5, 3) := by decide +kernel
theorem dX6_field_251 : decode cX6_field 251 = .ok (.iload 8, 2) := by decide +kernel
theorem dX6_field_253 : decode cX6_field 253 = .ok (.istore 8, 2) := by decide +kernel
theorem dX6_field_255 : decode cX6_field 255 = .ok (.iinc 9 1, 3) := by decide +kernel
theorem dX6_field_258 : decode cX6_field 258 = .ok (.goto (-48), 3) := by decide +kernel
theorem dX6_field_261 : decode cX6_field 261 = .ok (.iload 5, 2) := by decide +kernel
theorem dX6_field_263 : decode cX6_field 263 = .ok (.bipush (-9), 2) := by decide +kernel
theorem dX6_field_265 : decode cX6_field 265 = .ok (.if_icmp .eq 10, 3) := by decide +kernel
theorem dX6_field_268 : decode cX6_field 268 = .ok (.iload 8, 2) := by decide +kernel
theorem dX6_field_270 : decode cX6_field 270 = .ok (.iload 6, 2) := by decide +kernel
theorem dX6_field_272 : decode cX6_field 272 = .ok (.if_icmp .ge 11, 3) := by decide +kernel
theorem dX6_field_275 : decode cX6_field 275 = .ok (.iload 7, 2) := by decide +kernel
theorem dX6_field_277 : decode cX6_field 277 = .ok (.istore 5, 2) := by decide +kernel
theorem dX6_field_279 : decode cX6_field 279 = .ok (.iload 8, 2) := by decide +kernel
theorem dX6_field_281 : decode cX6_field 281 = .ok (.istore 6, 2) := by decide +kernel
theorem dX6_field_283 : decode cX6_field 283 = .ok (.iinc 7 1, 3) := by decide +kernel
theorem dX6_field_286 : decode cX6_field 286 = .ok (.goto (-95), 3) := by decide +kernel
theorem dX6_field_289 : decode cX6_field 289 = .ok (.iload 5, 2) := by decide +kernel
theorem dX6_field_291 : decode cX6_field 291 = .ok (.ireturn, 1) := by decide +kernel
set_option maxRecDepth 20000 in
theorem ggX6_count_X6_in : GoodIn wsX6_count wsX6_in := goodIn_r _ [9] (by decide +kernel) (by decide +kernel)
set_option maxRecDepth 20000 in
theorem gX6_count_X6_in : GoodIn wsX6_count (va_wsS RX6 60 yX6_in wsX6_in) := goodIn_app (goodIn_of _ (by decide +kernel)) ggX6_count_X6_in
theorem dX6_count_0 : decode cX6_count 0 = .ok (.aload_n 0, 1) := by decide +kernel
theorem dX6_count_1 : decode cX6_count 1 = .ok (.iconst 0, 1) := by decide +kernel
theorem dX6_count_2 : decode cX6_count 2 = .ok (.putfield 57, 3) := by decide +kernel
theorem dX6_count_5 : decode cX6_count 5 = .ok (.iconst 0, 1) := by decide +kernel
theorem dX6_count_6 : decode cX6_count 6 = .ok (.istore_n 2, 1) := by decide +kernel
theorem dX6_count_7 : decode cX6_count 7 = .ok (.iconst 0, 1) := by decide +kernel
theorem dX6_count_8 : decode cX6_count 8 = .ok (.istore_n 3, 1) := by decide +kernel
theorem dX6_count_9 : decode cX6_count 9 = .ok (.iload_n 3, 1) := by decide +kernel
theorem dX6_count_10 : decode cX6_count 10 = .ok (.aload_n 0, 1) := by decide +kernel
theorem dX6_count_11 : decode cX6_count 11 = .ok (.getfield 72, 3) := by decide +kernel
theorem dX6_count_14 : decode cX6_count 14 = .ok (.if_icmp .ge 26, 3) := by decide +kernel
theorem dX6_count_17 : decode cX6_count 17 = .ok (.iload_n 2, 1) := by decide +kernel
theorem dX6_count_18 : decode cX6_count 18 = .ok (.aload_n 0, 1) := by decide +kernel
theorem dX6_count_19 : decode cX6_count 19 = .ok (.getfield 41, 3) := by decide +kernel
theorem dX6_count_22 : decode cX6_count 22 = .ok (.iload_n 3, 1) := by decide +kernel
theorem dX6_count_23 : decode cX6_count 23 = .ok (.baload, 1) := by decide +kernel
theorem dX6_count_24 : decode cX6_count 24 = .ok (.ifCond .eq 7, 3) := by decide +kernel
theorem dX6_count_27 : decode cX6_count 27 = .ok (.iconst 1, 1) := by decide +kernel
theorem dX6_count_28 : decode cX6_count 28 = .ok (.goto 4, 3) := by decide +kernel
theorem dX6_count_31 : decode cX6_count 31 = .ok (.iconst 0, 1) := by decide +kernel
theorem dX6_count_32 : decode cX6_count 32 = .ok (.iadd, 1) := by decide +kernel
theorem dX6_count_33 : decode cX6_count 33 = .ok (.istore_n 2, 1) := by decide +kernel
theorem dX6_count_34 : decode cX6_count 34 = .ok (.iinc 3 1, 3) := by decide +kernel
theorem dX6_count_37 : decode cX6_count 37 = .ok (.goto (-28), 3) := by decide +kernel
theorem dX6_count_40 : decode cX6_count 40 = .ok (.iload_n 1, 1) := by decide +kernel
theorem dX6_count_41 : decode cX6_count 41 = .ok (.ifCond .ne 10, 3) := by decide +kernel
theorem dX6_count_44 : decode cX6_count 44 = .ok (.aload_n 0, 1) := by decide +kernel
theorem dX6_count_45 : decode cX6_count 45 = .ok (.getfield 72, 3) := by decide +kernel
theorem dX6_count_48 : decode cX6_count 48 = .ok (.goto 45, 3) := by decide +kernel
theorem dX6_count_51 : decode cX6_count 51 = .ok (.iload_n 1, 1) := by decide +kernel
theorem dX6_count_52 : decode cX6_count 52 = .ok (.iconst 1, 1) := by decide +kernel
theorem dX6_count_53 : decode cX6_count 53 = .ok (.if_icmp .ne 7, 3) := by decide +kernel
theorem dX6_count_56 : decode cX6_count 56 = .ok (.iload_n 2, 1) := by decide +kernel
theorem dX6_count_57 : decode cX6_count 57 = .ok (.goto 36, 3) := by decide +kernel
theorem dX6_count_60 : decode cX6_count 60 = .ok (.iload_n 1, 1) := by decide +kernel
theorem dX6_count_61 : decode cX6_count 61 = .ok (.iconst 2, 1) := by decide +kernel
theorem dX6_count_62 : decode cX6_count 62 = .ok (.if_icmp .ne 10, 3) := by decide +kernel
theorem dX6_count_65 : decode cX6_count 65 = .ok (.aload_n 0, 1) := by decide +kernel
theorem dX6_count_66 : decode cX6_count 66 = .ok (.getfield 114, 3) := by decide +kernel
theorem dX6_count_69 : decode cX6_count 69 = .ok (.goto 24, 3) := by decide +kernel
theorem dX6_count_72 : decode cX6_count 72 = .ok (.iload_n 1, 1) := by decide +kernel
theorem dX6_count_73 : decode cX6_count 73 = .ok (.iconst 3, 1) := by decide +kernel
theorem dX6_count_74 : decode cX6_count 74 = .ok (.iconst 5, 1) := by decide +kernel
theorem dX6_count_75 : decode cX6_count 75 = .ok (.invokestatic 60, 3) := by decide +kernel
theorem dX6_count_78 : decode cX6_count 78 = .ok (.ifCond .eq 14, 3) := by decide +kernel
theorem dX6_count_81 : decode cX6_count 81 = .ok (.aload_n 0, 1) := by decide +kernel
theorem dX6_count_82 : decode cX6_count 82 = .ok (.getfield 7, 3) := by decide +kernel
theorem dX6_count_85 : decode cX6_count 85 = .ok (.iload_n 1, 1) := by decide +kernel
theorem dX6_count_86 : decode cX6_count 86 = .ok (.iconst 3, 1) := by decide +kernel
theorem dX6_count_87 : decode cX6_count 87 = .ok (.isub, 1) := by decide +kernel
theorem dX6_count_88 : decode cX6_count 88 = .ok (.iaload, 1) := by decide +kernel
theorem dX6_count_89 : decode cX6_count 89 = .ok (.goto 4, 3) := by decide +kernel
theorem dX6_count_92 : decode cX6_count 92 = .ok (.iconst (-1), 1) := by decide +kernel
theorem dX6_count_93 : decode cX6_count 93 = .ok (.ireturn, 1) := by decide +kernel
theorem dX6_trace_0 : decode cX6_trace 0 = .ok (.aload_n 0, 1) := by decide +kernel
theorem dX6_trace_1 : decode cX6_trace 1 = .ok (.iconst 0, 1) := by decide +kernel
theorem dX6_trace_2 : decode cX6_trace 2 = .ok (.putfield 57, 3) := by decide +kernel
theorem dX6_trace_5 : decode cX6_trace 5 = .ok (.aload_n 0, 1) := by decide +kernel
theorem dX6_trace_6 : decode cX6_trace 6 = .ok (.getfield 78, 3) := by decide +kernel
theorem dX6_trace_9 : decode cX6_trace 9 = .ok (.lreturn, 1) := by decide +kernel
theorem dJ6_bitCount_0f7a4_0 : decode cJ6_bitCount_0f7a4 0 = .ok (.iload_n 0, 1) := by decide +kernel
theorem dJ6_bitCount_0f7a4_1 : decode cJ6_bitCount_0f7a4 1 = .ok (.iload_n 0, 1) := by decide +kernel
theorem dJ6_bitCount_0f7a4_2 : decode cJ6_bitCount_0f7a4 2 = .ok (.iconst 1, 1) := by decide +kernel
theorem dJ6_bitCount_0f7a4_3 : decode cJ6_bitCount_0f7a4 3 = .ok (.iushr, 1) := by decide +kernel
theorem dJ6_bitCount_0f7a4_4 : decode cJ6_bitCount_0f7a4 4 = .ok (.ldc_w 265, 3) := by decide +kernel
theorem dJ6_bitCount_0f7a4_7 : decode cJ6_bitCount_0f7a4 7 = .ok (.iand, 1) := by decide +kernel
theorem dJ6_bitCount_0f7a4_8 : decode cJ6_bitCount_0f7a4 8 = .ok (.isub, 1) := by decide +kernel
theorem dJ6_bitCount_0f7a4_9 : decode cJ6_bitCount_0f7a4 9 = .ok (.istore_n 0, 1) := by decide +kernel
theorem dJ6_bitCount_0f7a4_10 : decode cJ6_bitCount_0f7a4 10 = .ok (.iload_n 0, 1) := by decide +kernel
theorem dJ6_bitCount_0f7a4_11 : decode cJ6_bitCount_0f7a4 11 = .ok (.ldc_w 266, 3) := by decide +kernel
theorem dJ6_bitCount_0f7a4_14 : decode cJ6_bitCount_0f7a4 14 = .ok (.iand, 1) := by decide +kernel
theorem dJ6_bitCount_0f7a4_15 : decode cJ6_bitCount_0f7a4 15 = .ok (.iload_n 0, 1) := by decide +kernel
theorem dJ6_bitCount_0f7a4_16 : decode cJ6_bitCount_0f7a4 16 = .ok (.iconst 2, 1) := by decide +kernel
theorem dJ6_bitCount_0f7a4_17 : decode cJ6_bitCount_0f7a4 17 = .ok (.iushr, 1) := by decide +kernel
theorem dJ6_bitCount_0f7a4_18 : decode cJ6_bitCount_0f7a4 18 = .ok (.ldc_w 266, 3) := by decide +kernel
theorem dJ6_bitCount_0f7a4_21 : decode cJ6_bitCount_0f7a4 21 = .ok (.iand, 1) := by decide +kernel
theorem dJ6_bitCount_0f7a4_22 : decode cJ6_bitCount_0f7a4 22 = .ok (.iadd, 1) := by decide +kernel
theorem dJ6_bitCount_0f7a4_23 : decode cJ6_bitCount_0f7a4 23 = .ok (.istore_n 0, 1) := by decide +kernel
theorem dJ6_bitCount_0f7a4_24 : decode cJ6_bitCount_0f7a4 24 = .ok (.iload_n 0, 1) := by decide +kernel
theorem dJ6_bitCount_0f7a4_25 : decode cJ6_bitCount_0f7a4 25 = .ok (.iload_n 0, 1) := by decide +kernel
theorem dJ6_bitCount_0f7a4_26 : decode cJ6_bitCount_0f7a4 26 = .ok (.iconst 4, 1) := by decide +kernel
theorem dJ6_bitCount_0f7a4_27 : decode cJ6_bitCount_0f7a4 27 = .ok (.iushr, 1) := by decide +kernel
theorem dJ6_bitCount_0f7a4_28 : decode cJ6_bitCount_0f7a4 28 = .ok (.iadd, 1) := by decide +kernel
theorem dJ6_bitCount_0f7a4_29 : decode cJ6_bitCount_0f7a4 29 = .ok (.ldc_w 267, 3) := by decide +kernel
theorem dJ6_bitCount_0f7a4_32 : decode cJ6_bitCount_0f7a4 32 = .ok (.iand, 1) := by decide +kernel
theorem dJ6_bitCount_0f7a4_33 : decode cJ6_bitCount_0f7a4 33 = .ok (.istore_n 0, 1) := by decide +kernel
theorem dJ6_bitCount_0f7a4_34 : decode cJ6_bitCount_0f7a4 34 = .ok (.iload_n 0, 1) := by decide +kernel
theorem dJ6_bitCount_0f7a4_35 : decode cJ6_bitCount_0f7a4 35 = .ok (.iload_n 0, 1) := by decide +kernel
theorem dJ6_bitCount_0f7a4_36 : decode cJ6_bitCount_0f7a4 36 = .ok (.bipush 8, 2) := by decide +kernel
theorem dJ6_bitCount_0f7a4_38 : decode cJ6_bitCount_0f7a4 38 = .ok (.iushr, 1) := by decide +kernel
theorem dJ6_bitCount_0f7a4_39 : decode cJ6_bitCount_0f7a4 39 = .ok (.iadd, 1) := by decide +kernel
theorem dJ6_bitCount_0f7a4_40 : decode cJ6_bitCount_0f7a4 40 = .ok (.istore_n 0, 1) := by decide +kernel
theorem dJ6_bitCount_0f7a4_41 : decode cJ6_bitCount_0f7a4 41 = .ok (.iload_n 0, 1) := by decide +kernel
theorem dJ6_bitCount_0f7a4_42 : decode cJ6_bitCount_0f7a4 42 = .ok (.iload_n 0, 1) := by decide +kernel
theorem dJ6_bitCount_0f7a4_43 : decode cJ6_bitCount_0f7a4 43 = .ok (.bipush 16, 2) := by decide +kernel
theorem dJ6_bitCount_0f7a4_45 : decode cJ6_bitCount_0f7a4 45 = .ok (.iushr, 1) := by decide +kernel
theorem dJ6_bitCount_0f7a4_46 : decode cJ6_bitCount_0f7a4 46 = .ok (.iadd, 1) := by decide +kernel
theorem dJ6_bitCount_0f7a4_47 : decode cJ6_bitCount_0f7a4 47 = .ok (.istore_n 0, 1) := by decide +kernel
theorem dJ6_bitCount_0f7a4_48 : decode cJ6_bitCount_0f7a4 48 = .ok (.iload_n 0, 1) := by decide +kernel
theorem dJ6_bitCount_0f7a4_49 : decode cJ6_bitCount_0f7a4 49 = .ok (.bipush 63, 2) := by decide +kernel
theorem dJ6_bitCount_0f7a4_51 : decode cJ6_bitCount_0f7a4 51 = .ok (.iand, 1) := by decide +kernel
theorem dJ6_bitCount_0f7a4_52 : decode cJ6_bitCount_0f7a4 52 = .ok (.ireturn, 1) := by decide +kernel
theorem dJ9_max_7cf53_0 : decode cJ9_max_7cf53 0 = .ok (.iload_n 0, 1) := by decide +kernel
theorem dJ9_max_7cf53_1 : decode cJ9_max_7cf53 1 = .ok (.iload_n 1, 1) := by decide +kernel
theorem dJ9_max_7cf53_2 : decode cJ9_max_7cf53 2 = .ok (.if_icmp .lt 7, 3) := by decide +kernel
theorem dJ9_max_7cf53_5 : decode cJ9_max_7cf53 5 = .ok (.iload_n 0, 1) := by decide +kernel
theorem dJ9_max_7cf53_6 : decode cJ9_max_7cf53 6 = .ok (.goto 4, 3) := by decide +kernel
theorem dJ9_max_7cf53_9 : decode cJ9_max_7cf53 9 = .ok (.iload_n 1, 1) := by decide +kernel
theorem dJ9_max_7cf53_10 : decode cJ9_max_7cf53 10 = .ok (.ireturn, 1) := by decide +kernel
theorem dJ9_min_7cf53_0 : decode cJ9_min_7cf53 0 = .ok (.iload_n 0, 1) := by decide +kernel
theorem dJ9_min_7cf53_1 : decode cJ9_min_7cf53 1 = .ok (.iload_n 1, 1) := by decide +kernel
theorem dJ9_min_7cf53_2 : decode cJ9_min_7cf53 2 = .ok (.if_icmp .gt 7, 3) := by decide +kernel
theorem dJ9_min_7cf53_5 : decode cJ9_min_7cf53 5 = .ok (.iload_n 0, 1) := by decide +kernel
theorem dJ9_min_7cf53_6 : decode cJ9_min_7cf53 6 = .ok (.goto 4, 3) := by decide +kernel
theorem dJ9_min_7cf53_9 : decode cJ9_min_7cf53 9 = .ok (.iload_n 1, 1) := by decide +kernel
theorem dJ9_min_7cf53_10 : decode cJ9_min_7cf53 10 = .ok (.ireturn, 1) := by decide +kernel
end
section
set_option maxRecDepth 20000 in
theorem ggL_law_X5_init : GoodIn wsL_law wsX5_init := goodIn_r _ [8, 9, 10, 11, 12, 13, 14, 15, 16, 17, 18, 19, 20, 21, 22, 23, 24, 25, 26, 27, 28, 29, 30, 31, 32, 33, 34, 35, 36, 37, 38, 39, 40, 41, 42, 43, 44, 45, 46, 47, 48, 49, 50, 51, 52, 53, 54, 55, 56, 57, 58, 59, 60, 61, 62, 63, 550, 551, 552, 553, 554, 555, 526, 527, 528, 529, 530, 556, 557, 558, 559, 560, 561, 562, 563, 564, 565, 566, 567, 568, 569] (by decide +kernel) (by decide +kernel)
set_option maxRecDepth 20000 in
theorem gL_law_X5_init : GoodIn wsL_law (wsX5_init) := ggL_law_X5_init
set_option maxRecDepth 20000 in
theorem ggL_law_X6_init : GoodIn wsL_law wsX6_init := goodIn_r _ [66, 67, 10, 11, 32, 68, 69, 70, 71, 72, 73, 74, 75, 76, 77, 78, 79, 80, 81, 82, 83, 531, 532, 533, 534, 535, 536, 537, 538, 539, 540, 541, 542, 543, 544, 545, 546, 547, 548, 549] (by decide +kernel) (by decide +kernel)
set_option maxRecDepth 20000 in
theorem gL_law_X6_init : GoodIn wsL_law (wsX6_init) := ggL_law_X6_init
set_option maxRecDepth 20000 in
theorem ggL_law_X5_set : GoodIn wsL_law wsX5_set := goodIn_r _ [87, 15, 88, 89, 2, 90, 91, 92, 93, 14, 94, 36, 95, 96, 97, 98, 37, 99, 100, 101, 102, 38, 526, 527, 528, 529, 530, 550, 551, 552, 553, 554, 555] (by decide +kernel) (by decide +kernel)
set_option maxRecDepth 20000 in
theorem gL_law_X5_set : GoodIn wsL_law (wsV RL 13 RX5 yX5_set wsX5_set) := goodIn_app (goodIn_of _ (by decide +kernel)) ggL_law_X5_set
set_option maxRecDepth 20000 in
theorem ggL_law_X6_set : GoodIn wsL_law wsX6_set := goodIn_r _ [106, 107, 68, 108, 109, 5, 110, 531, 532, 533, 534, 535, 536, 537, 538, 539, 540, 541, 542, 543, 544, 545, 546, 547, 548, 549] (by decide +kernel) (by decide +kernel)
set_option maxRecDepth 20000 in
theorem gL_law_X6_set : GoodIn wsL_law (wsV RL 17 RX6 yX6_set wsX6_set) := goodIn_app (goodIn_of _ (by decide +kernel)) ggL_law_X6_set
set_option maxRecDepth 20000 in
theorem ggL_law_X5_shares : GoodIn wsL_law wsX5_shares := goodIn_r _ [114, 15, 88, 89, 2, 90, 115, 116, 117, 14, 118, 33, 119, 120, 526, 527, 528, 529, 530, 550, 551, 552, 553, 554, 555] (by decide +kernel) (by decide +kernel)
set_option maxRecDepth 20000 in
theorem gL_law_X5_shares : GoodIn wsL_law (wsV RL 18 RX5 yX5_shares wsX5_shares) := goodIn_app (goodIn_of _ (by decide +kernel)) ggL_law_X5_shares
set_option maxRecDepth 20000 in
theorem ggL_law_X6_shares : GoodIn wsL_law wsX6_shares := goodIn_r _ [124, 107, 69, 108, 109, 5, 110, 531, 532, 533, 534, 535, 536, 537, 538, 539, 540, 541, 542, 543, 544, 545, 546, 547, 548, 549] (by decide +kernel) (by decide +kernel)
set_option maxRecDepth 20000 in
theorem gL_law_X6_shares : GoodIn wsL_law (wsV RL 22 RX6 yX6_shares wsX6_shares) := goodIn_app (goodIn_of _ (by decide +kernel)) ggL_law_X6_shares
set_option maxRecDepth 20000 in
theorem ggL_law_X5_season : GoodIn wsL_law wsX5_season := goodIn_r _ [128, 15, 88, 89, 2, 90, 129, 130, 131, 132, 133, 134, 14, 135, 34, 35, 119, 120, 526, 527, 528, 529, 530, 550, 551, 552, 553, 554, 555] (by decide +kernel) (by decide +kernel)
set_option maxRecDepth 20000 in
theorem gL_law_X5_season : GoodIn wsL_law (wsV RL 23 RX5 yX5_season wsX5_season) := goodIn_app (goodIn_of _ (by decide +kernel)) ggL_law_X5_season
set_option maxRecDepth 20000 in
theorem ggL_law_X6_season : GoodIn wsL_law wsX6_season := goodIn_r _ [139, 107, 70, 71, 108, 109, 5, 110, 531, 532, 533, 534, 535, 536, 537, 538, 539, 540, 541, 542, 543, 544, 545, 546, 547, 548, 549] (by decide +kernel) (by decide +kernel)
set_option maxRecDepth 20000 in
theorem gL_law_X6_season : GoodIn wsL_law (wsV RL 26 RX6 yX6_season wsX6_season) := goodIn_app (goodIn_of _ (by decide +kernel)) ggL_law_X6_season
set_option maxRecDepth 20000 in
theorem ggL_law_X5_share : GoodIn wsL_law wsX5_share := goodIn_r _ [143, 15, 144, 145, 2, 146, 88, 89, 90, 147, 148, 149, 14, 150, 35, 33, 34, 151, 152, 526, 527, 528, 529, 530, 550, 551, 552, 553, 554, 555] (by decide +kernel) (by decide +kernel)
set_option maxRecDepth 20000 in
theorem gL_law_X5_share : GoodIn wsL_law (wsV RL 27 RX5 yX5_share wsX5_share) := goodIn_app (goodIn_of _ (by decide +kernel)) ggL_law_X5_share
set_option maxRecDepth 20000 in
theorem ggL_law_X6_share : GoodIn wsL_law wsX6_share := goodIn_r _ [156, 107, 157, 158, 5, 159, 108, 109, 110, 160, 161, 162, 163, 69, 71, 70, 531, 532, 533, 534, 535, 536, 537, 538, 539, 540, 541, 542, 543, 544, 545, 546, 547, 548, 549] (by decide +kernel) (by decide +kernel)
set_option maxRecDepth 20000 in
theorem gL_law_X6_share : GoodIn wsL_law (wsV RL 31 RX6 yX6_share wsX6_share) := goodIn_app (goodIn_of _ (by decide +kernel)) ggL_law_X6_share
set_option maxRecDepth 20000 in
theorem ggL_law_X5_duty : GoodIn wsL_law wsX5_duty := goodIn_r _ [167, 19, 168, 169, 170, 88, 89, 2, 90, 171, 172, 173, 174, 175, 176, 18, 177, 44, 43, 178, 179, 180, 181, 10, 11, 182, 183, 184, 185, 186, 187, 188, 189, 190, 191, 192, 526, 527, 528, 529, 530, 570, 571, 572, 573, 574, 575, 576, 556, 557] (by decide +kernel) (by decide +kernel)
set_option maxRecDepth 20000 in
theorem gL_law_X5_duty : GoodIn wsL_law (wsV RL 32 RX5 yX5_duty wsX5_duty) := goodIn_app (goodIn_of _ (by decide +kernel)) ggL_law_X5_duty
set_option maxRecDepth 20000 in
theorem ggL_law_X6_duty : GoodIn wsL_law wsX6_duty := goodIn_r _ [196, 107, 197, 72, 73, 74, 75, 76, 77, 79, 108, 109, 5, 110, 531, 532, 533, 534, 535, 536, 537, 538, 539, 540, 541, 542, 543, 544, 545, 546, 547, 548, 549] (by decide +kernel) (by decide +kernel)
set_option maxRecDepth 20000 in
theorem gL_law_X6_duty : GoodIn wsL_law (wsV RL 36 RX6 yX6_duty wsX6_duty) := goodIn_app (goodIn_of _ (by decide +kernel)) ggL_law_X6_duty
set_option maxRecDepth 20000 in
theorem ggL_law_X5_on : GoodIn wsL_law wsX5_on := goodIn_r _ [201, 19, 202, 203, 204, 18, 205, 44, 43, 526, 527, 528, 529, 530, 570, 571, 572, 573, 574, 575, 576, 556, 557] (by decide +kernel) (by decide +kernel)
set_option maxRecDepth 20000 in
theorem gL_law_X5_on : GoodIn wsL_law (wsV RL 37 RX5 yX5_on wsX5_on) := goodIn_app (goodIn_of _ (by decide +kernel)) ggL_law_X5_on
set_option maxRecDepth 20000 in
theorem ggL_law_X6_on : GoodIn wsL_law wsX6_on := goodIn_r _ [209, 107, 79, 210, 211, 212, 5, 213, 197, 108, 109, 110, 531, 532, 533, 534, 535, 536, 537, 538, 539, 540, 541, 542, 543, 544, 545, 546, 547, 548, 549] (by decide +kernel) (by decide +kernel)
set_option maxRecDepth 20000 in
theorem gL_law_X6_on : GoodIn wsL_law (wsV RL 41 RX6 yX6_on wsX6_on) := goodIn_app (goodIn_of _ (by decide +kernel)) ggL_law_X6_on
set_option maxRecDepth 20000 in
theorem ggL_law_X5_drop : GoodIn wsL_law wsX5_drop := goodIn_r _ [217, 19, 218, 219, 220, 18, 221, 44, 43, 526, 527, 528, 529, 530, 556, 557] (by decide +kernel) (by decide +kernel)
set_option maxRecDepth 20000 in
theorem gL_law_X5_drop : GoodIn wsL_law (wsV RL 42 RX5 yX5_drop wsX5_drop) := goodIn_app (goodIn_of _ (by decide +kernel)) ggL_law_X5_drop
set_option maxRecDepth 20000 in
theorem ggL_law_X6_drop : GoodIn wsL_law wsX6_drop := goodIn_r _ [225, 107, 197, 531, 532, 533, 534, 535, 536, 537, 538, 539, 540, 541, 542, 543, 544, 545, 546, 547, 548, 549] (by decide +kernel) (by decide +kernel)
set_option maxRecDepth 20000 in
theorem gL_law_X6_drop : GoodIn wsL_law (wsV RL 46 RX6 yX6_drop wsX6_drop) := goodIn_app (goodIn_of _ (by decide +kernel)) ggL_law_X6_drop
set_option maxRecDepth 20000 in
theorem ggL_law_X5_drain : GoodIn wsL_law wsX5_drain := goodIn_r _ [229, 19, 28, 15, 202, 203, 204, 18, 205, 44, 43, 171, 172, 2, 173, 88, 89, 90, 230, 231, 232, 170, 233, 182, 234, 235, 236, 237, 183, 184, 185, 238, 239, 240, 241, 186, 242, 243, 244, 526, 527, 528, 529, 530, 570, 571, 572, 573, 574, 575, 576, 550, 551, 552, 553, 554, 555, 556, 557] (by decide +kernel) (by decide +kernel)
set_option maxRecDepth 20000 in
theorem gL_law_X5_drain : GoodIn wsL_law (wsV RL 47 RX5 yX5_drain wsX5_drain) := goodIn_app (goodIn_of _ (by decide +kernel)) ggL_law_X5_drain
set_option maxRecDepth 20000 in
theorem ggL_law_X6_drain : GoodIn wsL_law wsX6_drain := goodIn_r _ [248, 107, 72, 76, 249, 250, 251, 210, 211, 212, 5, 213, 197, 108, 109, 110, 252, 253, 254, 255, 73, 74, 75, 68, 531, 532, 533, 534, 535, 536, 537, 538, 539, 540, 541, 542, 543, 544, 545, 546, 547, 548, 549] (by decide +kernel) (by decide +kernel)
set_option maxRecDepth 20000 in
theorem gL_law_X6_drain : GoodIn wsL_law (wsV RL 50 RX6 yX6_drain wsX6_drain) := goodIn_app (goodIn_of _ (by decide +kernel)) ggL_law_X6_drain
set_option maxRecDepth 20000 in
theorem ggL_law_X5_life : GoodIn wsL_law wsX5_life := goodIn_r _ [259, 15, 19, 171, 172, 2, 173, 88, 89, 90, 260, 261, 262, 18, 263, 44, 264, 203, 204, 205, 43, 265, 266, 267, 268, 269, 270, 271, 272, 273, 235, 236, 170, 237, 183, 184, 182, 185, 238, 239, 240, 241, 186, 242, 243, 244, 274, 275, 276, 14, 277, 37, 278, 279, 280, 281, 36, 282, 148, 149, 150, 35, 33, 34, 151, 152, 283, 284, 285, 286, 526, 527, 528, 529, 530, 550, 551, 552, 553, 554, 555, 556, 557, 570, 571, 572, 573, 574, 575, 576] (by decide +kernel) (by decide +kernel)
set_option maxRecDepth 20000 in
theorem gL_law_X5_life : GoodIn wsL_law (wsV RL 51 RX5 yX5_life wsX5_life) := goodIn_app (goodIn_of _ (by decide +kernel)) ggL_law_X5_life
set_option maxRecDepth 20000 in
theorem ggL_law_X6_life : GoodIn wsL_law wsX6_life := goodIn_r _ [290, 107, 291, 292, 5, 293, 108, 109, 110, 294, 295, 296, 297, 197, 79, 298, 299, 300, 301, 68, 302, 303, 304, 305, 252, 253, 254, 255, 73, 74, 72, 75, 76, 306, 307, 308, 309, 310, 311, 312, 160, 161, 162, 163, 69, 71, 70, 531, 532, 533, 534, 535, 536, 537, 538, 539, 540, 541, 542, 543, 544, 545, 546, 547, 548, 549] (by decide +kernel) (by decide +kernel)
set_option maxRecDepth 20000 in
theorem gL_law_X6_life : GoodIn wsL_law (wsV RL 54 RX6 yX6_life wsX6_life) := goodIn_app (goodIn_of _ (by decide +kernel)) ggL_law_X6_life
set_option maxRecDepth 20000 in
theorem ggL_law_X5_charge : GoodIn wsL_law wsX5_charge := goodIn_r _ [316, 19, 15, 317, 239, 240, 241, 144, 145, 2, 146, 88, 89, 90, 171, 172, 173, 260, 261, 262, 18, 263, 44, 264, 203, 204, 205, 43, 265, 266, 267, 268, 269, 270, 271, 272, 273, 235, 236, 170, 237, 183, 184, 182, 185, 238, 186, 242, 243, 244, 318, 319, 320, 14, 321, 278, 279, 280, 281, 36, 322, 323, 324, 325, 282, 148, 149, 150, 35, 33, 34, 151, 152, 283, 284, 285, 286, 526, 527, 528, 529, 530, 550, 551, 552, 553, 554, 555, 556, 557, 570, 571, 572, 573, 574, 575, 576] (by decide +kernel) (by decide +kernel)
set_option maxRecDepth 20000 in
theorem gL_law_X5_charge : GoodIn wsL_law (wsV RL 55 RX5 yX5_charge wsX5_charge) := goodIn_app (goodIn_of _ (by decide +kernel)) ggL_law_X5_charge
set_option maxRecDepth 20000 in
theorem ggL_law_X6_charge : GoodIn wsL_law wsX6_charge := goodIn_r _ [329, 107, 68, 157, 158, 5, 159, 108, 109, 110, 291, 292, 293, 294, 295, 296, 297, 197, 79, 302, 303, 304, 305, 252, 253, 254, 255, 73, 74, 72, 75, 76, 306, 307, 308, 309, 310, 311, 312, 160, 161, 162, 163, 69, 71, 70, 531, 532, 533, 534, 535, 536, 537, 538, 539, 540, 541, 542, 543, 544, 545, 546, 547, 548, 549] (by decide +kernel) (by decide +kernel)
set_option maxRecDepth 20000 in
theorem gL_law_X6_charge : GoodIn wsL_law (wsV RL 58 RX6 yX6_charge wsX6_charge) := goodIn_app (goodIn_of _ (by decide +kernel)) ggL_law_X6_charge
set_option maxRecDepth 20000 in
theorem ggL_law_X5_price : GoodIn wsL_law wsX5_price := goodIn_r _ [333, 19, 202, 203, 204, 18, 205, 44, 43, 260, 261, 262, 263, 264, 334, 335, 336, 2, 337, 15, 265, 266, 267, 268, 269, 270, 271, 272, 273, 235, 236, 170, 237, 183, 184, 182, 185, 238, 239, 240, 241, 186, 242, 243, 244, 274, 275, 276, 14, 277, 37, 278, 279, 280, 281, 36, 282, 148, 149, 150, 35, 33, 34, 151, 152, 283, 284, 285, 286, 526, 527, 528, 529, 530, 556, 557, 570, 571, 572, 573, 574, 575, 576, 550, 551, 552, 553, 554, 555] (by decide +kernel) (by decide +kernel)
set_option maxRecDepth 20000 in
theorem gL_law_X5_price : GoodIn wsL_law (wsV RL 59 RX5 yX5_price wsX5_price) := goodIn_app (goodIn_of _ (by decide +kernel)) ggL_law_X5_price
set_option maxRecDepth 20000 in
theorem ggL_law_X6_price : GoodIn wsL_law wsX6_price := goodIn_r _ [341, 107, 210, 211, 212, 5, 213, 197, 108, 109, 110, 294, 295, 296, 297, 79, 298, 299, 300, 301, 68, 302, 303, 304, 305, 252, 253, 254, 255, 73, 74, 72, 75, 76, 306, 307, 308, 309, 310, 311, 312, 160, 161, 162, 163, 69, 71, 70, 531, 532, 533, 534, 535, 536, 537, 538, 539, 540, 541, 542, 543, 544, 545, 546, 547, 548, 549] (by decide +kernel) (by decide +kernel)
set_option maxRecDepth 20000 in
theorem gL_law_X6_price : GoodIn wsL_law (wsV RL 62 RX6 yX6_price wsX6_price) := goodIn_app (goodIn_of _ (by decide +kernel)) ggL_law_X6_price
set_option maxRecDepth 20000 in
theorem ggL_law_X5_plan : GoodIn wsL_law wsX5_plan := goodIn_r _ [345, 19, 88, 89, 2, 90, 346, 347, 348, 349, 350, 351, 352, 18, 353, 44, 269, 270, 271, 272, 264, 203, 204, 205, 43, 334, 335, 336, 337, 15, 265, 266, 267, 268, 273, 235, 236, 170, 237, 183, 184, 182, 185, 238, 239, 240, 241, 186, 242, 243, 244, 274, 275, 276, 14, 277, 37, 278, 279, 280, 281, 36, 282, 148, 149, 150, 35, 33, 34, 151, 152, 283, 284, 285, 286, 526, 527, 528, 529, 530, 556, 557, 570, 571, 572, 573, 574, 575, 576, 550, 551, 552, 553, 554, 555] (by decide +kernel) (by decide +kernel)
set_option maxRecDepth 20000 in
theorem gL_law_X5_plan : GoodIn wsL_law (wsV RL 63 RX5 yX5_plan wsX5_plan) := goodIn_app (goodIn_of _ (by decide +kernel)) ggL_law_X5_plan
set_option maxRecDepth 20000 in
theorem ggL_law_X6_plan : GoodIn wsL_law wsX6_plan := goodIn_r _ [357, 107, 197, 108, 109, 5, 110, 358, 359, 360, 361, 77, 298, 299, 300, 301, 68, 302, 303, 304, 305, 252, 253, 254, 255, 73, 74, 72, 75, 76, 306, 307, 308, 309, 310, 311, 312, 160, 161, 162, 163, 69, 71, 70, 531, 532, 533, 534, 535, 536, 537, 538, 539, 540, 541, 542, 543, 544, 545, 546, 547, 548, 549] (by decide +kernel) (by decide +kernel)
set_option maxRecDepth 20000 in
theorem gL_law_X6_plan : GoodIn wsL_law (wsV RL 66 RX6 yX6_plan wsX6_plan) := goodIn_app (goodIn_of _ (by decide +kernel)) ggL_law_X6_plan
set_option maxRecDepth 20000 in
theorem ggL_law_X5_sign : GoodIn wsL_law wsX5_sign := goodIn_r _ [365, 23, 144, 145, 2, 146, 88, 89, 90, 366, 367, 368, 22, 369, 51, 370, 371, 372, 373, 48, 49, 119, 120, 374, 375, 376, 377, 50, 378, 379, 380, 381, 151, 152, 526, 527, 528, 529, 530, 558, 559, 560, 561] (by decide +kernel) (by decide +kernel)
set_option maxRecDepth 20000 in
theorem gL_law_X5_sign : GoodIn wsL_law (wsV RL 67 RX5 yX5_sign wsX5_sign) := goodIn_app (goodIn_of _ (by decide +kernel)) ggL_law_X5_sign
set_option maxRecDepth 20000 in
theorem ggL_law_X6_sign : GoodIn wsL_law wsX6_sign := goodIn_r _ [385, 107, 386, 80, 81, 157, 158, 5, 159, 108, 109, 110, 531, 532, 533, 534, 535, 536, 537, 538, 539, 540, 541, 542, 543, 544, 545, 546, 547, 548, 549] (by decide +kernel) (by decide +kernel)
set_option maxRecDepth 20000 in
theorem gL_law_X6_sign : GoodIn wsL_law (wsV RL 70 RX6 yX6_sign wsX6_sign) := goodIn_app (goodIn_of _ (by decide +kernel)) ggL_law_X6_sign
set_option maxRecDepth 20000 in
theorem ggL_law_X5_forget : GoodIn wsL_law wsX5_forget := goodIn_r _ [390, 23, 391, 392, 393, 22, 394, 51, 374, 375, 376, 377, 48, 50, 378, 379, 380, 381, 151, 2, 152, 119, 120, 526, 527, 528, 529, 530, 558, 559, 560, 561] (by decide +kernel) (by decide +kernel)
set_option maxRecDepth 20000 in
theorem gL_law_X5_forget : GoodIn wsL_law (wsV RL 71 RX5 yX5_forget wsX5_forget) := goodIn_app (goodIn_of _ (by decide +kernel)) ggL_law_X5_forget
set_option maxRecDepth 20000 in
theorem ggL_law_X6_forget : GoodIn wsL_law wsX6_forget := goodIn_r _ [398, 107, 386, 531, 532, 533, 534, 535, 536, 537, 538, 539, 540, 541, 542, 543, 544, 545, 546, 547, 548, 549] (by decide +kernel) (by decide +kernel)
set_option maxRecDepth 20000 in
theorem gL_law_X6_forget : GoodIn wsL_law (wsV RL 74 RX6 yX6_forget wsX6_forget) := goodIn_app (goodIn_of _ (by decide +kernel)) ggL_law_X6_forget
set_option maxRecDepth 20000 in
theorem ggL_law_X5_level : GoodIn wsL_law wsX5_level := goodIn_r _ [402, 27, 403, 404, 26, 405, 89, 2, 90, 144, 145, 146, 88, 406, 407, 408, 409, 61, 410, 411, 412, 413, 414, 415, 416, 417, 62, 418, 261, 262, 18, 263, 44, 264, 203, 204, 205, 43, 419, 266, 267, 268, 269, 270, 271, 272, 273, 235, 236, 170, 237, 183, 184, 182, 185, 238, 239, 240, 241, 186, 242, 243, 244, 420, 421, 422, 423, 319, 320, 14, 321, 278, 279, 280, 281, 36, 322, 323, 324, 325, 282, 148, 149, 150, 35, 33, 34, 151, 152, 283, 284, 285, 286, 424, 425, 426, 427, 428, 526, 527, 528, 529, 530, 562, 563, 564, 565, 566, 567, 568, 569, 550, 551, 552, 553, 554, 555, 556, 557, 570, 571, 572, 573, 574, 575, 576] (by decide +kernel) (by decide +kernel)
set_option maxRecDepth 20000 in
theorem gL_law_X5_level : GoodIn wsL_law (wsV RL 75 RX5 yX5_level wsX5_level) := goodIn_app (goodIn_of _ (by decide +kernel)) ggL_law_X5_level
set_option maxRecDepth 20000 in
theorem ggL_law_X6_level : GoodIn wsL_law wsX6_level := goodIn_r _ [432, 107, 82, 433, 434, 5, 435, 108, 109, 110, 157, 158, 159, 436, 437, 438, 439, 68, 294, 295, 296, 297, 197, 79, 302, 303, 304, 305, 252, 253, 254, 255, 73, 74, 72, 75, 76, 306, 307, 308, 309, 310, 311, 312, 160, 161, 162, 163, 69, 71, 70, 531, 532, 533, 534, 535, 536, 537, 538, 539, 540, 541, 542, 543, 544, 545, 546, 547, 548, 549] (by decide +kernel) (by decide +kernel)
set_option maxRecDepth 20000 in
theorem gL_law_X6_level : GoodIn wsL_law (wsV RL 78 RX6 yX6_level wsX6_level) := goodIn_app (goodIn_of _ (by decide +kernel)) ggL_law_X6_level
set_option maxRecDepth 20000 in
theorem ggL_law_X5_agrees : GoodIn wsL_law wsX5_agrees := goodIn_r _ [443, 27, 403, 404, 26, 405, 89, 2, 90, 444, 445, 446, 447, 61, 63, 410, 411, 412, 413, 414, 415, 416, 417, 62, 418, 261, 262, 18, 263, 44, 264, 203, 204, 205, 43, 419, 266, 267, 268, 269, 270, 271, 272, 273, 235, 236, 170, 237, 183, 184, 182, 185, 238, 239, 240, 241, 186, 242, 243, 244, 420, 421, 422, 448, 279, 280, 14, 281, 36, 449, 379, 380, 22, 381, 48, 50, 151, 152, 450, 323, 324, 325, 282, 148, 149, 150, 35, 33, 34, 283, 284, 285, 286, 424, 425, 426, 427, 428, 278, 451, 452, 453, 454, 49, 526, 527, 528, 529, 530, 562, 563, 564, 565, 566, 567, 568, 569, 558, 559, 560, 561, 550, 551, 552, 553, 554, 555, 556, 557, 570, 571, 572, 573, 574, 575, 576] (by decide +kernel) (by decide +kernel)
set_option maxRecDepth 20000 in
theorem gL_law_X5_agrees : GoodIn wsL_law (wsV RL 79 RX5 yX5_agrees wsX5_agrees) := goodIn_app (goodIn_of _ (by decide +kernel)) ggL_law_X5_agrees
set_option maxRecDepth 20000 in
theorem ggL_law_X6_agrees : GoodIn wsL_law wsX6_agrees := goodIn_r _ [458, 107, 433, 434, 5, 435, 108, 109, 110, 459, 460, 461, 462, 386, 82, 80, 81, 436, 437, 438, 439, 68, 294, 295, 296, 297, 197, 79, 302, 303, 304, 305, 252, 253, 254, 255, 73, 74, 72, 75, 76, 306, 307, 308, 309, 310, 311, 312, 160, 161, 162, 163, 69, 71, 70, 531, 532, 533, 534, 535, 536, 537, 538, 539, 540, 541, 542, 543, 544, 545, 546, 547, 548, 549] (by decide +kernel) (by decide +kernel)
set_option maxRecDepth 20000 in
theorem gL_law_X6_agrees : GoodIn wsL_law (wsV RL 82 RX6 yX6_agrees wsX6_agrees) := goodIn_app (goodIn_of _ (by decide +kernel)) ggL_law_X6_agrees
set_option maxRecDepth 20000 in
theorem ggL_law_X5_field : GoodIn wsL_law wsX5_field := goodIn_r _ [466, 27, 88, 89, 2, 90, 467, 468, 469, 26, 470, 60, 56, 471, 445, 446, 447, 61, 63, 410, 411, 412, 413, 414, 415, 416, 417, 62, 418, 261, 262, 18, 263, 44, 264, 203, 204, 205, 43, 419, 266, 267, 268, 269, 270, 271, 272, 273, 235, 236, 170, 237, 183, 184, 182, 185, 238, 239, 240, 241, 186, 242, 243, 244, 420, 421, 422, 448, 279, 280, 14, 281, 36, 449, 379, 380, 22, 381, 48, 50, 151, 152, 450, 323, 324, 325, 282, 148, 149, 150, 35, 33, 34, 283, 284, 285, 286, 424, 425, 426, 427, 428, 278, 451, 452, 453, 454, 49, 119, 120, 472, 473, 474, 475, 476, 477, 478, 479, 480, 481, 482, 483, 59, 484, 485, 486, 487, 57, 58, 488, 489, 490, 491, 492, 493, 494, 495, 496, 497, 498, 526, 527, 528, 529, 530, 562, 563, 564, 565, 566, 567, 568, 569, 558, 559, 560, 561, 550, 551, 552, 553, 554, 555, 556, 557, 570, 571, 572, 573, 574, 575, 576] (by decide +kernel) (by decide +kernel)
set_option maxRecDepth 20000 in
theorem gL_law_X5_field : GoodIn wsL_law (wsV RL 83 RX5 yX5_field wsX5_field) := goodIn_app (goodIn_of _ (by decide +kernel)) ggL_law_X5_field
set_option maxRecDepth 20000 in
theorem ggL_law_X6_field : GoodIn wsL_law wsX6_field := goodIn_r _ [502, 107, 83, 82, 108, 109, 5, 110, 459, 460, 461, 462, 386, 80, 81, 436, 437, 438, 439, 68, 294, 295, 296, 297, 197, 79, 302, 303, 304, 305, 252, 253, 254, 255, 73, 74, 72, 75, 76, 306, 307, 308, 309, 310, 311, 312, 160, 161, 162, 163, 69, 71, 70, 531, 532, 533, 534, 535, 536, 537, 538, 539, 540, 541, 542, 543, 544, 545, 546, 547, 548, 549] (by decide +kernel) (by decide +kernel)
set_option maxRecDepth 20000 in
theorem gL_law_X6_field : GoodIn wsL_law (wsV RL 86 RX6 yX6_field wsX6_field) := goodIn_app (goodIn_of _ (by decide +kernel)) ggL_law_X6_field
set_option maxRecDepth 20000 in
theorem ggL_law_X5_count : GoodIn wsL_law wsX5_count := goodIn_r _ [506, 19, 23, 15, 260, 261, 262, 18, 263, 44, 264, 203, 204, 205, 43, 507, 508, 509, 510, 511, 512, 513, 526, 527, 528, 529, 530, 556, 557, 558, 559, 560, 561, 550, 551, 552, 553, 554, 555, 570, 571, 572, 573, 574, 575, 576] (by decide +kernel) (by decide +kernel)
set_option maxRecDepth 20000 in
theorem gL_law_X5_count : GoodIn wsL_law (wsV RL 87 RX5 yX5_count wsX5_count) := goodIn_app (goodIn_of _ (by decide +kernel)) ggL_law_X5_count
set_option maxRecDepth 20000 in
theorem ggL_law_X6_count : GoodIn wsL_law wsX6_count := goodIn_r _ [517, 107, 197, 79, 386, 68, 108, 109, 5, 110, 531, 532, 533, 534, 535, 536, 537, 538, 539, 540, 541, 542, 543, 544, 545, 546, 547, 548, 549] (by decide +kernel) (by decide +kernel)
set_option maxRecDepth 20000 in
theorem gL_law_X6_count : GoodIn wsL_law (wsV RL 90 RX6 yX6_count wsX6_count) := goodIn_app (goodIn_of _ (by decide +kernel)) ggL_law_X6_count
set_option maxRecDepth 20000 in
theorem ggL_law_X5_trace : GoodIn wsL_law wsX5_trace := goodIn_r _ [521, 28, 526, 527, 528, 529, 530] (by decide +kernel) (by decide +kernel)
set_option maxRecDepth 20000 in
theorem gL_law_X5_trace : GoodIn wsL_law (wsV RL 91 RX5 yX5_trace wsX5_trace) := goodIn_app (goodIn_of _ (by decide +kernel)) ggL_law_X5_trace
set_option maxRecDepth 20000 in
theorem ggL_law_X6_trace : GoodIn wsL_law wsX6_trace := goodIn_r _ [525, 107, 249, 531, 532, 533, 534, 535, 536, 537, 538, 539, 540, 541, 542, 543, 544, 545, 546, 547, 548, 549] (by decide +kernel) (by decide +kernel)
set_option maxRecDepth 20000 in
theorem gL_law_X6_trace : GoodIn wsL_law (wsV RL 95 RX6 yX6_trace wsX6_trace) := goodIn_app (goodIn_of _ (by decide +kernel)) ggL_law_X6_trace
theorem dL_law_0 : decode cL_law 0 = .ok (.new 7, 3) := by decide +kernel
theorem dL_law_3 : decode cL_law 3 = .ok (.dup, 1) := by decide +kernel
theorem dL_law_4 : decode cL_law 4 = .ok (.invokespecial 9, 3) := by decide +kernel
theorem dL_law_7 : decode cL_law 7 = .ok (.astore_n 1, 1) := by decide +kernel
theorem dL_law_8 : decode cL_law 8 = .ok (.new 10, 3) := by decide +kernel
theorem dL_law_11 : decode cL_law 11 = .ok (.dup, 1) := by decide +kernel
theorem dL_law_12 : decode cL_law 12 = .ok (.invokespecial 12, 3) := by decide +kernel
theorem dL_law_15 : decode cL_law 15 = .ok (.astore_n 2, 1) := by decide +kernel
theorem dL_law_16 : decode cL_law 16 = .ok (.iconst 0, 1) := by decide +kernel
theorem dL_law_17 : decode cL_law 17 = .ok (.istore_n 3, 1) := by decide +kernel
theorem dL_law_18 : decode cL_law 18 = .ok (.iload_n 3, 1) := by decide +kernel
theorem dL_law_19 : decode cL_law 19 = .ok (.aload_n 0, 1) := by decide +kernel
theorem dL_law_20 : decode cL_law 20 = .ok (.arraylength, 1) := by decide +kernel
theorem dL_law_21 : decode cL_law 21 = .ok (.bipush 7, 2) := by decide +kernel
theorem dL_law_23 : decode cL_law 23 = .ok (.isub, 1) := by decide +kernel
theorem dL_law_24 : decode cL_law 24 = .ok (.if_icmp .gt 682, 3) := by decide +kernel
theorem dL_law_27 : decode cL_law 27 = .ok (.aload_n 0, 1) := by decide +kernel
theorem dL_law_28 : decode cL_law 28 = .ok (.iload_n 3, 1) := by decide +kernel
theorem dL_law_29 : decode cL_law 29 = .ok (.iaload, 1) := by decide +kernel
theorem dL_law_30 : decode cL_law 30 = .ok (.bipush 31, 2) := by decide +kernel
theorem dL_law_32 : decode cL_law 32 = .ok (.iand, 1) := by decide +kernel
theorem dL_law_33 : decode cL_law 33 = .ok (.tableswitch 667 0 18 #[91, 124, 167, 200, 223, 298, 347, 360, 393, 416, 449, 472, 505, 538, 551, 584, 607, 630, 653], 91) := by decide +kernel
theorem dL_law_124 : decode cL_law 124 = .ok (.aload_n 1, 1) := by decide +kernel
theorem dL_law_125 : decode cL_law 125 = .ok (.aload_n 0, 1) := by decide +kernel
theorem dL_law_126 : decode cL_law 126 = .ok (.iload_n 3, 1) := by decide +kernel
theorem dL_law_127 : decode cL_law 127 = .ok (.iconst 1, 1) := by decide +kernel
theorem dL_law_128 : decode cL_law 128 = .ok (.iadd, 1) := by decide +kernel
theorem dL_law_129 : decode cL_law 129 = .ok (.iaload, 1) := by decide +kernel
theorem dL_law_130 : decode cL_law 130 = .ok (.aload_n 0, 1) := by decide +kernel
theorem dL_law_131 : decode cL_law 131 = .ok (.iload_n 3, 1) := by decide +kernel
theorem dL_law_132 : decode cL_law 132 = .ok (.iconst 2, 1) := by decide +kernel
theorem dL_law_133 : decode cL_law 133 = .ok (.iadd, 1) := by decide +kernel
theorem dL_law_134 : decode cL_law 134 = .ok (.iaload, 1) := by decide +kernel
theorem dL_law_135 : decode cL_law 135 = .ok (.invokevirtual 13, 3) := by decide +kernel
theorem dL_law_138 : decode cL_law 138 = .ok (.aload_n 2, 1) := by decide +kernel
theorem dL_law_139 : decode cL_law 139 = .ok (.aload_n 0, 1) := by decide +kernel
theorem dL_law_140 : decode cL_law 140 = .ok (.iload_n 3, 1) := by decide +kernel
theorem dL_law_141 : decode cL_law 141 = .ok (.iconst 1, 1) := by decide +kernel
theorem dL_law_142 : decode cL_law 142 = .ok (.iadd, 1) := by decide +kernel
theorem dL_law_143 : decode cL_law 143 = .ok (.iaload, 1) := by decide +kernel
theorem dL_law_144 : decode cL_law 144 = .ok (.aload_n 0, 1) := by decide +kernel
theorem dL_law_145 : decode cL_law 145 = .ok (.iload_n 3, 1) := by decide +kernel
theorem dL_law_146 : decode cL_law 146 = .ok (.iconst 2, 1) := by decide +kernel
theorem dL_law_147 : decode cL_law 147 = .ok (.iadd, 1) := by decide +kernel
theorem dL_law_148 : decode cL_law 148 = .ok (.iaload, 1) := by decide +kernel
theorem dL_law_149 : decode cL_law 149 = .ok (.invokevirtual 17, 3) := by decide +kernel
theorem dL_law_152 : decode cL_law 152 = .ok (.if_icmp .eq 548, 3) := by decide +kernel
theorem dL_law_155 : decode cL_law 155 = .ok (.iconst 0, 1) := by decide +kernel
theorem dL_law_156 : decode cL_law 156 = .ok (.ireturn, 1) := by decide +kernel
theorem dL_law_157 : decode cL_law 157 = .ok (.aload_n 1, 1) := by decide +kernel
theorem dL_law_158 : decode cL_law 158 = .ok (.aload_n 0, 1) := by decide +kernel
theorem dL_law_159 : decode cL_law 159 = .ok (.iload_n 3, 1) := by decide +kernel
theorem dL_law_160 : decode cL_law 160 = .ok (.iconst 1, 1) := by decide +kernel
theorem dL_law_161 : decode cL_law 161 = .ok (.iadd, 1) := by decide +kernel
theorem dL_law_162 : decode cL_law 162 = .ok (.iaload, 1) := by decide +kernel
theorem dL_law_163 : decode cL_law 163 = .ok (.aload_n 0, 1) := by decide +kernel
theorem dL_law_164 : decode cL_law 164 = .ok (.iload_n 3, 1) := by decide +kernel
theorem dL_law_165 : decode cL_law 165 = .ok (.iconst 2, 1) := by decide +kernel
theorem dL_law_166 : decode cL_law 166 = .ok (.iadd, 1) := by decide +kernel
theorem dL_law_167 : decode cL_law 167 = .ok (.iaload, 1) := by decide +kernel
theorem dL_law_168 : decode cL_law 168 = .ok (.aload_n 0, 1) := by decide +kernel
theorem dL_law_169 : decode cL_law 169 = .ok (.iload_n 3, 1) := by decide +kernel
theorem dL_law_170 : decode cL_law 170 = .ok (.iconst 3, 1) := by decide +kernel
theorem dL_law_171 : decode cL_law 171 = .ok (.iadd, 1) := by decide +kernel
theorem dL_law_172 : decode cL_law 172 = .ok (.iaload, 1) := by decide +kernel
theorem dL_law_173 : decode cL_law 173 = .ok (.invokevirtual 18, 3) := by decide +kernel
theorem dL_law_176 : decode cL_law 176 = .ok (.aload_n 2, 1) := by decide +kernel
theorem dL_law_177 : decode cL_law 177 = .ok (.aload_n 0, 1) := by decide +kernel
theorem dL_law_178 : decode cL_law 178 = .ok (.iload_n 3, 1) := by decide +kernel
theorem dL_law_179 : decode cL_law 179 = .ok (.iconst 1, 1) := by decide +kernel
theorem dL_law_180 : decode cL_law 180 = .ok (.iadd, 1) := by decide +kernel
theorem dL_law_181 : decode cL_law 181 = .ok (.iaload, 1) := by decide +kernel
theorem dL_law_182 : decode cL_law 182 = .ok (.aload_n 0, 1) := by decide +kernel
theorem dL_law_183 : decode cL_law 183 = .ok (.iload_n 3, 1) := by decide +kernel
theorem dL_law_184 : decode cL_law 184 = .ok (.iconst 2, 1) := by decide +kernel
theorem dL_law_185 : decode cL_law 185 = .ok (.iadd, 1) := by decide +kernel
theorem dL_law_186 : decode cL_law 186 = .ok (.iaload, 1) := by decide +kernel
theorem dL_law_187 : decode cL_law 187 = .ok (.aload_n 0, 1) := by decide +kernel
theorem dL_law_188 : decode cL_law 188 = .ok (.iload_n 3, 1) := by decide +kernel
theorem dL_law_189 : decode cL_law 189 = .ok (.iconst 3, 1) := by decide +kernel
theorem dL_law_190 : decode cL_law 190 = .ok (.iadd, 1) := by decide +kernel
theorem dL_law_191 : decode cL_law 191 = .ok (.iaload, 1) := by decide +kernel
theorem dL_law_192 : decode cL_law 192 = .ok (.invokevirtual 22, 3) := by decide +kernel
theorem dL_law_195 : decode cL_law 195 = .ok (.if_icmp .eq 505, 3) := by decide +kernel
theorem dL_law_198 : decode cL_law 198 = .ok (.iconst 0, 1) := by decide +kernel
theorem dL_law_199 : decode cL_law 199 = .ok (.ireturn, 1) := by decide +kernel
theorem dL_law_200 : decode cL_law 200 = .ok (.aload_n 1, 1) := by decide +kernel
theorem dL_law_201 : decode cL_law 201 = .ok (.aload_n 0, 1) := by decide +kernel
theorem dL_law_202 : decode cL_law 202 = .ok (.iload_n 3, 1) := by decide +kernel
theorem dL_law_203 : decode cL_law 203 = .ok (.iconst 1, 1) := by decide +kernel
theorem dL_law_204 : decode cL_law 204 = .ok (.iadd, 1) := by decide +kernel
theorem dL_law_205 : decode cL_law 205 = .ok (.iaload, 1) := by decide +kernel
theorem dL_law_206 : decode cL_law 206 = .ok (.aload_n 0, 1) := by decide +kernel
theorem dL_law_207 : decode cL_law 207 = .ok (.iload_n 3, 1) := by decide +kernel
theorem dL_law_208 : decode cL_law 208 = .ok (.iconst 2, 1) := by decide +kernel
theorem dL_law_209 : decode cL_law 209 = .ok (.iadd, 1) := by decide +kernel
theorem dL_law_210 : decode cL_law 210 = .ok (.iaload, 1) := by decide +kernel
theorem dL_law_211 : decode cL_law 211 = .ok (.invokevirtual 23, 3) := by decide +kernel
theorem dL_law_214 : decode cL_law 214 = .ok (.aload_n 2, 1) := by decide +kernel
theorem dL_law_215 : decode cL_law 215 = .ok (.aload_n 0, 1) := by decide +kernel
theorem dL_law_216 : decode cL_law 216 = .ok (.iload_n 3, 1) := by decide +kernel
theorem dL_law_217 : decode cL_law 217 = .ok (.iconst 1, 1) := by decide +kernel
theorem dL_law_218 : decode cL_law 218 = .ok (.iadd, 1) := by decide +kernel
theorem dL_law_219 : decode cL_law 219 = .ok (.iaload, 1) := by decide +kernel
theorem dL_law_220 : decode cL_law 220 = .ok (.aload_n 0, 1) := by decide +kernel
theorem dL_law_221 : decode cL_law 221 = .ok (.iload_n 3, 1) := by decide +kernel
theorem dL_law_222 : decode cL_law 222 = .ok (.iconst 2, 1) := by decide +kernel
theorem dL_law_223 : decode cL_law 223 = .ok (.iadd, 1) := by decide +kernel
theorem dL_law_224 : decode cL_law 224 = .ok (.iaload, 1) := by decide +kernel
theorem dL_law_225 : decode cL_law 225 = .ok (.invokevirtual 26, 3) := by decide +kernel
theorem dL_law_228 : decode cL_law 228 = .ok (.if_icmp .eq 472, 3) := by decide +kernel
theorem dL_law_231 : decode cL_law 231 = .ok (.iconst 0, 1) := by decide +kernel
theorem dL_law_232 : decode cL_law 232 = .ok (.ireturn, 1) := by decide +kernel
theorem dL_law_233 : decode cL_law 233 = .ok (.aload_n 1, 1) := by decide +kernel
theorem dL_law_234 : decode cL_law 234 = .ok (.aload_n 0, 1) := by decide +kernel
theorem dL_law_235 : decode cL_law 235 = .ok (.iload_n 3, 1) := by decide +kernel
theorem dL_law_236 : decode cL_law 236 = .ok (.iconst 1, 1) := by decide +kernel
theorem dL_law_237 : decode cL_law 237 = .ok (.iadd, 1) := by decide +kernel
theorem dL_law_238 : decode cL_law 238 = .ok (.iaload, 1) := by decide +kernel
theorem dL_law_239 : decode cL_law 239 = .ok (.invokevirtual 27, 3) := by decide +kernel
theorem dL_law_242 : decode cL_law 242 = .ok (.aload_n 2, 1) := by decide +kernel
theorem dL_law_243 : decode cL_law 243 = .ok (.aload_n 0, 1) := by decide +kernel
theorem dL_law_244 : decode cL_law 244 = .ok (.iload_n 3, 1) := by decide +kernel
theorem dL_law_245 : decode cL_law 245 = .ok (.iconst 1, 1) := by decide +kernel
theorem dL_law_246 : decode cL_law 246 = .ok (.iadd, 1) := by decide +kernel
theorem dL_law_247 : decode cL_law 247 = .ok (.iaload, 1) := by decide +kernel
theorem dL_law_248 : decode cL_law 248 = .ok (.invokevirtual 31, 3) := by decide +kernel
theorem dL_law_251 : decode cL_law 251 = .ok (.if_icmp .eq 449, 3) := by decide +kernel
theorem dL_law_254 : decode cL_law 254 = .ok (.iconst 0, 1) := by decide +kernel
theorem dL_law_255 : decode cL_law 255 = .ok (.ireturn, 1) := by decide +kernel
theorem dL_law_256 : decode cL_law 256 = .ok (.aload_n 1, 1) := by decide +kernel
theorem dL_law_257 : decode cL_law 257 = .ok (.aload_n 0, 1) := by decide +kernel
theorem dL_law_258 : decode cL_law 258 = .ok (.iload_n 3, 1) := by decide +kernel
theorem dL_law_259 : decode cL_law 259 = .ok (.iconst 1, 1) := by decide +kernel
theorem dL_law_260 : decode cL_law 260 = .ok (.iadd, 1) := by decide +kernel
theorem dL_law_261 : decode cL_law 261 = .ok (.iaload, 1) := by decide +kernel
theorem dL_law_262 : decode cL_law 262 = .ok (.aload_n 0, 1) := by decide +kernel
theorem dL_law_263 : decode cL_law 263 = .ok (.iload_n 3, 1) := by decide +kernel
theorem dL_law_264 : decode cL_law 264 = .ok (.iconst 2, 1) := by decide +kernel
theorem dL_law_265 : decode cL_law 265 = .ok (.iadd, 1) := by decide +kernel
theorem dL_law_266 : decode cL_law 266 = .ok (.iaload, 1) := by decide +kernel
theorem dL_law_267 : decode cL_law 267 = .ok (.aload_n 0, 1) := by decide +kernel
theorem dL_law_268 : decode cL_law 268 = .ok (.iload_n 3, 1) := by decide +kernel
theorem dL_law_269 : decode cL_law 269 = .ok (.iconst 3, 1) := by decide +kernel
theorem dL_law_270 : decode cL_law 270 = .ok (.iadd, 1) := by decide +kernel
theorem dL_law_271 : decode cL_law 271 = .ok (.iaload, 1) := by decide +kernel
theorem dL_law_272 : decode cL_law 272 = .ok (.aload_n 0, 1) := by decide +kernel
theorem dL_law_273 : decode cL_law 273 = .ok (.iload_n 3, 1) := by decide +kernel
theorem dL_law_274 : decode cL_law 274 = .ok (.iconst 4, 1) := by decide +kernel
theorem dL_law_275 : decode cL_law 275 = .ok (.iadd, 1) := by decide +kernel
theorem dL_law_276 : decode cL_law 276 = .ok (.iaload, 1) := by decide +kernel
theorem dL_law_277 : decode cL_law 277 = .ok (.aload_n 0, 1) := by decide +kernel
theorem dL_law_278 : decode cL_law 278 = .ok (.iload_n 3, 1) := by decide +kernel
theorem dL_law_279 : decode cL_law 279 = .ok (.iconst 5, 1) := by decide +kernel
theorem dL_law_280 : decode cL_law 280 = .ok (.iadd, 1) := by decide +kernel
theorem dL_law_281 : decode cL_law 281 = .ok (.iaload, 1) := by decide +kernel
theorem dL_law_282 : decode cL_law 282 = .ok (.aload_n 0, 1) := by decide +kernel
theorem dL_law_283 : decode cL_law 283 = .ok (.iload_n 3, 1) := by decide +kernel
theorem dL_law_284 : decode cL_law 284 = .ok (.bipush 6, 2) := by decide +kernel
theorem dL_law_286 : decode cL_law 286 = .ok (.iadd, 1) := by decide +kernel
theorem dL_law_287 : decode cL_law 287 = .ok (.iaload, 1) := by decide +kernel
theorem dL_law_288 : decode cL_law 288 = .ok (.invokevirtual 32, 3) := by decide +kernel
theorem dL_law_291 : decode cL_law 291 = .ok (.aload_n 2, 1) := by decide +kernel
theorem dL_law_292 : decode cL_law 292 = .ok (.aload_n 0, 1) := by decide +kernel
theorem dL_law_293 : decode cL_law 293 = .ok (.iload_n 3, 1) := by decide +kernel
theorem dL_law_294 : decode cL_law 294 = .ok (.iconst 1, 1) := by decide +kernel
theorem dL_law_295 : decode cL_law 295 = .ok (.iadd, 1) := by decide +kernel
theorem dL_law_296 : decode cL_law 296 = .ok (.iaload, 1) := by decide +kernel
theorem dL_law_297 : decode cL_law 297 = .ok (.aload_n 0, 1) := by decide +kernel
theorem dL_law_298 : decode cL_law 298 = .ok (.iload_n 3, 1) := by decide +kernel
theorem dL_law_299 : decode cL_law 299 = .ok (.iconst 2, 1) := by decide +kernel
theorem dL_law_300 : decode cL_law 300 = .ok (.iadd, 1) := by decide +kernel
theorem dL_law_301 : decode cL_law 301 = .ok (.iaload, 1) := by decide +kernel
theorem dL_law_302 : decode cL_law 302 = .ok (.aload_n 0, 1) := by decide +kernel
theorem dL_law_303 : decode cL_law 303 = .ok (.iload_n 3, 1) := by decide +kernel
theorem dL_law_304 : decode cL_law 304 = .ok (.iconst 3, 1) := by decide +kernel
theorem dL_law_305 : decode cL_law 305 = .ok (.iadd, 1) := by decide +kernel
theorem dL_law_306 : decode cL_law 306 = .ok (.iaload, 1) := by decide +kernel
theorem dL_law_307 : decode cL_law 307 = .ok (.aload_n 0, 1) := by decide +kernel
theorem dL_law_308 : decode cL_law 308 = .ok (.iload_n 3, 1) := by decide +kernel
theorem dL_law_309 : decode cL_law 309 = .ok (.iconst 4, 1) := by decide +kernel
theorem dL_law_310 : decode cL_law 310 = .ok (.iadd, 1) := by decide +kernel
theorem dL_law_311 : decode cL_law 311 = .ok (.iaload, 1) := by decide +kernel
theorem dL_law_312 : decode cL_law 312 = .ok (.aload_n 0, 1) := by decide +kernel
theorem dL_law_313 : decode cL_law 313 = .ok (.iload_n 3, 1) := by decide +kernel
theorem dL_law_314 : decode cL_law 314 = .ok (.iconst 5, 1) := by decide +kernel
theorem dL_law_315 : decode cL_law 315 = .ok (.iadd, 1) := by decide +kernel
theorem dL_law_316 : decode cL_law 316 = .ok (.iaload, 1) := by decide +kernel
theorem dL_law_317 : decode cL_law 317 = .ok (.aload_n 0, 1) := by decide +kernel
theorem dL_law_318 : decode cL_law 318 = .ok (.iload_n 3, 1) := by decide +kernel
theorem dL_law_319 : decode cL_law 319 = .ok (.bipush 6, 2) := by decide +kernel
theorem dL_law_321 : decode cL_law 321 = .ok (.iadd, 1) := by decide +kernel
theorem dL_law_322 : decode cL_law 322 = .ok (.iaload, 1) := by decide +kernel
theorem dL_law_323 : decode cL_law 323 = .ok (.invokevirtual 36, 3) := by decide +kernel
theorem dL_law_326 : decode cL_law 326 = .ok (.if_icmp .eq 374, 3) := by decide +kernel
theorem dL_law_329 : decode cL_law 329 = .ok (.iconst 0, 1) := by decide +kernel
theorem dL_law_330 : decode cL_law 330 = .ok (.ireturn, 1) := by decide +kernel
theorem dL_law_331 : decode cL_law 331 = .ok (.aload_n 1, 1) := by decide +kernel
theorem dL_law_332 : decode cL_law 332 = .ok (.aload_n 0, 1) := by decide +kernel
theorem dL_law_333 : decode cL_law 333 = .ok (.iload_n 3, 1) := by decide +kernel
theorem dL_law_334 : decode cL_law 334 = .ok (.iconst 1, 1) := by decide +kernel
theorem dL_law_335 : decode cL_law 335 = .ok (.iadd, 1) := by decide +kernel
theorem dL_law_336 : decode cL_law 336 = .ok (.iaload, 1) := by decide +kernel
theorem dL_law_337 : decode cL_law 337 = .ok (.aload_n 0, 1) := by decide +kernel
theorem dL_law_338 : decode cL_law 338 = .ok (.iload_n 3, 1) := by decide +kernel
theorem dL_law_339 : decode cL_law 339 = .ok (.iconst 2, 1) := by decide +kernel
theorem dL_law_340 : decode cL_law 340 = .ok (.iadd, 1) := by decide +kernel
theorem dL_law_341 : decode cL_law 341 = .ok (.iaload, 1) := by decide +kernel
theorem dL_law_342 : decode cL_law 342 = .ok (.ifCond .eq 7, 3) := by decide +kernel
theorem dL_law_345 : decode cL_law 345 = .ok (.iconst 1, 1) := by decide +kernel
theorem dL_law_346 : decode cL_law 346 = .ok (.goto 4, 3) := by decide +kernel
theorem dL_law_349 : decode cL_law 349 = .ok (.iconst 0, 1) := by decide +kernel
theorem dL_law_350 : decode cL_law 350 = .ok (.invokevirtual 37, 3) := by decide +kernel
theorem dL_law_353 : decode cL_law 353 = .ok (.aload_n 2, 1) := by decide +kernel
theorem dL_law_354 : decode cL_law 354 = .ok (.aload_n 0, 1) := by decide +kernel
theorem dL_law_355 : decode cL_law 355 = .ok (.iload_n 3, 1) := by decide +kernel
theorem dL_law_356 : decode cL_law 356 = .ok (.iconst 1, 1) := by decide +kernel
theorem dL_law_357 : decode cL_law 357 = .ok (.iadd, 1) := by decide +kernel
theorem dL_law_358 : decode cL_law 358 = .ok (.iaload, 1) := by decide +kernel
theorem dL_law_359 : decode cL_law 359 = .ok (.aload_n 0, 1) := by decide +kernel
theorem dL_law_360 : decode cL_law 360 = .ok (.iload_n 3, 1) := by decide +kernel
theorem dL_law_361 : decode cL_law 361 = .ok (.iconst 2, 1) := by decide +kernel
theorem dL_law_362 : decode cL_law 362 = .ok (.iadd, 1) := by decide +kernel
theorem dL_law_363 : decode cL_law 363 = .ok (.iaload, 1) := by decide +kernel
theorem dL_law_364 : decode cL_law 364 = .ok (.ifCond .eq 7, 3) := by decide +kernel
theorem dL_law_367 : decode cL_law 367 = .ok (.iconst 1, 1) := by decide +kernel
theorem dL_law_368 : decode cL_law 368 = .ok (.goto 4, 3) := by decide +kernel
theorem dL_law_371 : decode cL_law 371 = .ok (.iconst 0, 1) := by decide +kernel
theorem dL_law_372 : decode cL_law 372 = .ok (.invokevirtual 41, 3) := by decide +kernel
theorem dL_law_375 : decode cL_law 375 = .ok (.if_icmp .eq 325, 3) := by decide +kernel
theorem dL_law_378 : decode cL_law 378 = .ok (.iconst 0, 1) := by decide +kernel
theorem dL_law_379 : decode cL_law 379 = .ok (.ireturn, 1) := by decide +kernel
theorem dL_law_380 : decode cL_law 380 = .ok (.aload_n 1, 1) := by decide +kernel
theorem dL_law_381 : decode cL_law 381 = .ok (.invokevirtual 42, 3) := by decide +kernel
theorem dL_law_384 : decode cL_law 384 = .ok (.aload_n 2, 1) := by decide +kernel
theorem dL_law_385 : decode cL_law 385 = .ok (.invokevirtual 46, 3) := by decide +kernel
theorem dL_law_388 : decode cL_law 388 = .ok (.if_icmp .eq 312, 3) := by decide +kernel
theorem dL_law_391 : decode cL_law 391 = .ok (.iconst 0, 1) := by decide +kernel
theorem dL_law_392 : decode cL_law 392 = .ok (.ireturn, 1) := by decide +kernel
theorem dL_law_393 : decode cL_law 393 = .ok (.aload_n 1, 1) := by decide +kernel
theorem dL_law_394 : decode cL_law 394 = .ok (.aload_n 0, 1) := by decide +kernel
theorem dL_law_395 : decode cL_law 395 = .ok (.iload_n 3, 1) := by decide +kernel
theorem dL_law_396 : decode cL_law 396 = .ok (.iconst 1, 1) := by decide +kernel
theorem dL_law_397 : decode cL_law 397 = .ok (.iadd, 1) := by decide +kernel
theorem dL_law_398 : decode cL_law 398 = .ok (.iaload, 1) := by decide +kernel
theorem dL_law_399 : decode cL_law 399 = .ok (.aload_n 0, 1) := by decide +kernel
theorem dL_law_400 : decode cL_law 400 = .ok (.iload_n 3, 1) := by decide +kernel
theorem dL_law_401 : decode cL_law 401 = .ok (.iconst 2, 1) := by decide +kernel
theorem dL_law_402 : decode cL_law 402 = .ok (.iadd, 1) := by decide +kernel
theorem dL_law_403 : decode cL_law 403 = .ok (.iaload, 1) := by decide +kernel
theorem dL_law_404 : decode cL_law 404 = .ok (.invokevirtual 47, 3) := by decide +kernel
theorem dL_law_407 : decode cL_law 407 = .ok (.aload_n 2, 1) := by decide +kernel
theorem dL_law_408 : decode cL_law 408 = .ok (.aload_n 0, 1) := by decide +kernel
theorem dL_law_409 : decode cL_law 409 = .ok (.iload_n 3, 1) := by decide +kernel
theorem dL_law_410 : decode cL_law 410 = .ok (.iconst 1, 1) := by decide +kernel
theorem dL_law_411 : decode cL_law 411 = .ok (.iadd, 1) := by decide +kernel
theorem dL_law_412 : decode cL_law 412 = .ok (.iaload, 1) := by decide +kernel
theorem dL_law_413 : decode cL_law 413 = .ok (.aload_n 0, 1) := by decide +kernel
theorem dL_law_414 : decode cL_law 414 = .ok (.iload_n 3, 1) := by decide +kernel
theorem dL_law_415 : decode cL_law 415 = .ok (.iconst 2, 1) := by decide +kernel
theorem dL_law_416 : decode cL_law 416 = .ok (.iadd, 1) := by decide +kernel
theorem dL_law_417 : decode cL_law 417 = .ok (.iaload, 1) := by decide +kernel
theorem dL_law_418 : decode cL_law 418 = .ok (.invokevirtual 50, 3) := by decide +kernel
theorem dL_law_421 : decode cL_law 421 = .ok (.if_icmp .eq 279, 3) := by decide +kernel
theorem dL_law_424 : decode cL_law 424 = .ok (.iconst 0, 1) := by decide +kernel
theorem dL_law_425 : decode cL_law 425 = .ok (.ireturn, 1) := by decide +kernel
theorem dL_law_426 : decode cL_law 426 = .ok (.aload_n 1, 1) := by decide +kernel
theorem dL_law_427 : decode cL_law 427 = .ok (.aload_n 0, 1) := by decide +kernel
theorem dL_law_428 : decode cL_law 428 = .ok (.iload_n 3, 1) := by decide +kernel
theorem dL_law_429 : decode cL_law 429 = .ok (.iconst 1, 1) := by decide +kernel
theorem dL_law_430 : decode cL_law 430 = .ok (.iadd, 1) := by decide +kernel
theorem dL_law_431 : decode cL_law 431 = .ok (.iaload, 1) := by decide +kernel
theorem dL_law_432 : decode cL_law 432 = .ok (.invokevirtual 51, 3) := by decide +kernel
theorem dL_law_435 : decode cL_law 435 = .ok (.aload_n 2, 1) := by decide +kernel
theorem dL_law_436 : decode cL_law 436 = .ok (.aload_n 0, 1) := by decide +kernel
theorem dL_law_437 : decode cL_law 437 = .ok (.iload_n 3, 1) := by decide +kernel
theorem dL_law_438 : decode cL_law 438 = .ok (.iconst 1, 1) := by decide +kernel
theorem dL_law_439 : decode cL_law 439 = .ok (.iadd, 1) := by decide +kernel
theorem dL_law_440 : decode cL_law 440 = .ok (.iaload, 1) := by decide +kernel
theorem dL_law_441 : decode cL_law 441 = .ok (.invokevirtual 54, 3) := by decide +kernel
theorem dL_law_444 : decode cL_law 444 = .ok (.if_icmp .eq 256, 3) := by decide +kernel
theorem dL_law_447 : decode cL_law 447 = .ok (.iconst 0, 1) := by decide +kernel
theorem dL_law_448 : decode cL_law 448 = .ok (.ireturn, 1) := by decide +kernel
theorem dL_law_449 : decode cL_law 449 = .ok (.aload_n 1, 1) := by decide +kernel
theorem dL_law_450 : decode cL_law 450 = .ok (.aload_n 0, 1) := by decide +kernel
theorem dL_law_451 : decode cL_law 451 = .ok (.iload_n 3, 1) := by decide +kernel
theorem dL_law_452 : decode cL_law 452 = .ok (.iconst 1, 1) := by decide +kernel
theorem dL_law_453 : decode cL_law 453 = .ok (.iadd, 1) := by decide +kernel
theorem dL_law_454 : decode cL_law 454 = .ok (.iaload, 1) := by decide +kernel
theorem dL_law_455 : decode cL_law 455 = .ok (.aload_n 0, 1) := by decide +kernel
theorem dL_law_456 : decode cL_law 456 = .ok (.iload_n 3, 1) := by decide +kernel
theorem dL_law_457 : decode cL_law 457 = .ok (.iconst 2, 1) := by decide +kernel
theorem dL_law_458 : decode cL_law 458 = .ok (.iadd, 1) := by decide +kernel
theorem dL_law_459 : decode cL_law 459 = .ok (.iaload, 1) := by decide +kernel
theorem dL_law_460 : decode cL_law 460 = .ok (.invokevirtual 55, 3) := by decide +kernel
theorem dL_law_463 : decode cL_law 463 = .ok (.aload_n 2, 1) := by decide +kernel
theorem dL_law_464 : decode cL_law 464 = .ok (.aload_n 0, 1) := by decide +kernel
theorem dL_law_465 : decode cL_law 465 = .ok (.iload_n 3, 1) := by decide +kernel
theorem dL_law_466 : decode cL_law 466 = .ok (.iconst 1, 1) := by decide +kernel
theorem dL_law_467 : decode cL_law 467 = .ok (.iadd, 1) := by decide +kernel
theorem dL_law_468 : decode cL_law 468 = .ok (.iaload, 1) := by decide +kernel
theorem dL_law_469 : decode cL_law 469 = .ok (.aload_n 0, 1) := by decide +kernel
theorem dL_law_470 : decode cL_law 470 = .ok (.iload_n 3, 1) := by decide +kernel
theorem dL_law_471 : decode cL_law 471 = .ok (.iconst 2, 1) := by decide +kernel
theorem dL_law_472 : decode cL_law 472 = .ok (.iadd, 1) := by decide +kernel
theorem dL_law_473 : decode cL_law 473 = .ok (.iaload, 1) := by decide +kernel
theorem dL_law_474 : decode cL_law 474 = .ok (.invokevirtual 58, 3) := by decide +kernel
theorem dL_law_477 : decode cL_law 477 = .ok (.if_icmp .eq 223, 3) := by decide +kernel
theorem dL_law_480 : decode cL_law 480 = .ok (.iconst 0, 1) := by decide +kernel
theorem dL_law_481 : decode cL_law 481 = .ok (.ireturn, 1) := by decide +kernel
theorem dL_law_482 : decode cL_law 482 = .ok (.aload_n 1, 1) := by decide +kernel
theorem dL_law_483 : decode cL_law 483 = .ok (.aload_n 0, 1) := by decide +kernel
theorem dL_law_484 : decode cL_law 484 = .ok (.iload_n 3, 1) := by decide +kernel
theorem dL_law_485 : decode cL_law 485 = .ok (.iconst 1, 1) := by decide +kernel
theorem dL_law_486 : decode cL_law 486 = .ok (.iadd, 1) := by decide +kernel
theorem dL_law_487 : decode cL_law 487 = .ok (.iaload, 1) := by decide +kernel
theorem dL_law_488 : decode cL_law 488 = .ok (.invokevirtual 59, 3) := by decide +kernel
theorem dL_law_491 : decode cL_law 491 = .ok (.aload_n 2, 1) := by decide +kernel
theorem dL_law_492 : decode cL_law 492 = .ok (.aload_n 0, 1) := by decide +kernel
theorem dL_law_493 : decode cL_law 493 = .ok (.iload_n 3, 1) := by decide +kernel
theorem dL_law_494 : decode cL_law 494 = .ok (.iconst 1, 1) := by decide +kernel
theorem dL_law_495 : decode cL_law 495 = .ok (.iadd, 1) := by decide +kernel
theorem dL_law_496 : decode cL_law 496 = .ok (.iaload, 1) := by decide +kernel
theorem dL_law_497 : decode cL_law 497 = .ok (.invokevirtual 62, 3) := by decide +kernel
theorem dL_law_500 : decode cL_law 500 = .ok (.if_icmp .eq 200, 3) := by decide +kernel
theorem dL_law_503 : decode cL_law 503 = .ok (.iconst 0, 1) := by decide +kernel
theorem dL_law_504 : decode cL_law 504 = .ok (.ireturn, 1) := by decide +kernel
theorem dL_law_505 : decode cL_law 505 = .ok (.aload_n 1, 1) := by decide +kernel
theorem dL_law_506 : decode cL_law 506 = .ok (.aload_n 0, 1) := by decide +kernel
theorem dL_law_507 : decode cL_law 507 = .ok (.iload_n 3, 1) := by decide +kernel
theorem dL_law_508 : decode cL_law 508 = .ok (.iconst 1, 1) := by decide +kernel
theorem dL_law_509 : decode cL_law 509 = .ok (.iadd, 1) := by decide +kernel
theorem dL_law_510 : decode cL_law 510 = .ok (.iaload, 1) := by decide +kernel
theorem dL_law_511 : decode cL_law 511 = .ok (.aload_n 0, 1) := by decide +kernel
theorem dL_law_512 : decode cL_law 512 = .ok (.iload_n 3, 1) := by decide +kernel
theorem dL_law_513 : decode cL_law 513 = .ok (.iconst 2, 1) := by decide +kernel
theorem dL_law_514 : decode cL_law 514 = .ok (.iadd, 1) := by decide +kernel
theorem dL_law_515 : decode cL_law 515 = .ok (.iaload, 1) := by decide +kernel
theorem dL_law_516 : decode cL_law 516 = .ok (.invokevirtual 63, 3) := by decide +kernel
theorem dL_law_519 : decode cL_law 519 = .ok (.aload_n 2, 1) := by decide +kernel
theorem dL_law_520 : decode cL_law 520 = .ok (.aload_n 0, 1) := by decide +kernel
theorem dL_law_521 : decode cL_law 521 = .ok (.iload_n 3, 1) := by decide +kernel
theorem dL_law_522 : decode cL_law 522 = .ok (.iconst 1, 1) := by decide +kernel
theorem dL_law_523 : decode cL_law 523 = .ok (.iadd, 1) := by decide +kernel
theorem dL_law_524 : decode cL_law 524 = .ok (.iaload, 1) := by decide +kernel
theorem dL_law_525 : decode cL_law 525 = .ok (.aload_n 0, 1) := by decide +kernel
theorem dL_law_526 : decode cL_law 526 = .ok (.iload_n 3, 1) := by decide +kernel
theorem dL_law_527 : decode cL_law 527 = .ok (.iconst 2, 1) := by decide +kernel
theorem dL_law_528 : decode cL_law 528 = .ok (.iadd, 1) := by decide +kernel
theorem dL_law_529 : decode cL_law 529 = .ok (.iaload, 1) := by decide +kernel
theorem dL_law_530 : decode cL_law 530 = .ok (.invokevirtual 66, 3) := by decide +kernel
theorem dL_law_533 : decode cL_law 533 = .ok (.if_icmp .eq 167, 3) := by decide +kernel
theorem dL_law_536 : decode cL_law 536 = .ok (.iconst 0, 1) := by decide +kernel
theorem dL_law_537 : decode cL_law 537 = .ok (.ireturn, 1) := by decide +kernel
theorem dL_law_538 : decode cL_law 538 = .ok (.aload_n 1, 1) := by decide +kernel
theorem dL_law_539 : decode cL_law 539 = .ok (.aload_n 0, 1) := by decide +kernel
theorem dL_law_540 : decode cL_law 540 = .ok (.iload_n 3, 1) := by decide +kernel
theorem dL_law_541 : decode cL_law 541 = .ok (.iconst 1, 1) := by decide +kernel
theorem dL_law_542 : decode cL_law 542 = .ok (.iadd, 1) := by decide +kernel
theorem dL_law_543 : decode cL_law 543 = .ok (.iaload, 1) := by decide +kernel
theorem dL_law_544 : decode cL_law 544 = .ok (.aload_n 0, 1) := by decide +kernel
theorem dL_law_545 : decode cL_law 545 = .ok (.iload_n 3, 1) := by decide +kernel
theorem dL_law_546 : decode cL_law 546 = .ok (.iconst 2, 1) := by decide +kernel
theorem dL_law_547 : decode cL_law 547 = .ok (.iadd, 1) := by decide +kernel
theorem dL_law_548 : decode cL_law 548 = .ok (.iaload, 1) := by decide +kernel
theorem dL_law_549 : decode cL_law 549 = .ok (.invokevirtual 67, 3) := by decide +kernel
theorem dL_law_552 : decode cL_law 552 = .ok (.aload_n 2, 1) := by decide +kernel
theorem dL_law_553 : decode cL_law 553 = .ok (.aload_n 0, 1) := by decide +kernel
theorem dL_law_554 : decode cL_law 554 = .ok (.iload_n 3, 1) := by decide +kernel
theorem dL_law_555 : decode cL_law 555 = .ok (.iconst 1, 1) := by decide +kernel
theorem dL_law_556 : decode cL_law 556 = .ok (.iadd, 1) := by decide +kernel
theorem dL_law_557 : decode cL_law 557 = .ok (.iaload, 1) := by decide +kernel
theorem dL_law_558 : decode cL_law 558 = .ok (.aload_n 0, 1) := by decide +kernel
theorem dL_law_559 : decode cL_law 559 = .ok (.iload_n 3, 1) := by decide +kernel
theorem dL_law_560 : decode cL_law 560 = .ok (.iconst 2, 1) := by decide +kernel
theorem dL_law_561 : decode cL_law 561 = .ok (.iadd, 1) := by decide +kernel
theorem dL_law_562 : decode cL_law 562 = .ok (.iaload, 1) := by decide +kernel
theorem dL_law_563 : decode cL_law 563 = .ok (.invokevirtual 70, 3) := by decide +kernel
theorem dL_law_566 : decode cL_law 566 = .ok (.if_icmp .eq 134, 3) := by decide +kernel
theorem dL_law_569 : decode cL_law 569 = .ok (.iconst 0, 1) := by decide +kernel
theorem dL_law_570 : decode cL_law 570 = .ok (.ireturn, 1) := by decide +kernel
theorem dL_law_571 : decode cL_law 571 = .ok (.aload_n 1, 1) := by decide +kernel
theorem dL_law_572 : decode cL_law 572 = .ok (.invokevirtual 71, 3) := by decide +kernel
theorem dL_law_575 : decode cL_law 575 = .ok (.aload_n 2, 1) := by decide +kernel
theorem dL_law_576 : decode cL_law 576 = .ok (.invokevirtual 74, 3) := by decide +kernel
theorem dL_law_579 : decode cL_law 579 = .ok (.if_icmp .eq 121, 3) := by decide +kernel
theorem dL_law_582 : decode cL_law 582 = .ok (.iconst 0, 1) := by decide +kernel
theorem dL_law_583 : decode cL_law 583 = .ok (.ireturn, 1) := by decide +kernel
theorem dL_law_584 : decode cL_law 584 = .ok (.aload_n 1, 1) := by decide +kernel
theorem dL_law_585 : decode cL_law 585 = .ok (.aload_n 0, 1) := by decide +kernel
theorem dL_law_586 : decode cL_law 586 = .ok (.iload_n 3, 1) := by decide +kernel
theorem dL_law_587 : decode cL_law 587 = .ok (.iconst 1, 1) := by decide +kernel
theorem dL_law_588 : decode cL_law 588 = .ok (.iadd, 1) := by decide +kernel
theorem dL_law_589 : decode cL_law 589 = .ok (.iaload, 1) := by decide +kernel
theorem dL_law_590 : decode cL_law 590 = .ok (.aload_n 0, 1) := by decide +kernel
theorem dL_law_591 : decode cL_law 591 = .ok (.iload_n 3, 1) := by decide +kernel
theorem dL_law_592 : decode cL_law 592 = .ok (.iconst 2, 1) := by decide +kernel
theorem dL_law_593 : decode cL_law 593 = .ok (.iadd, 1) := by decide +kernel
theorem dL_law_594 : decode cL_law 594 = .ok (.iaload, 1) := by decide +kernel
theorem dL_law_595 : decode cL_law 595 = .ok (.invokevirtual 75, 3) := by decide +kernel
theorem dL_law_598 : decode cL_law 598 = .ok (.aload_n 2, 1) := by decide +kernel
theorem dL_law_599 : decode cL_law 599 = .ok (.aload_n 0, 1) := by decide +kernel
theorem dL_law_600 : decode cL_law 600 = .ok (.iload_n 3, 1) := by decide +kernel
theorem dL_law_601 : decode cL_law 601 = .ok (.iconst 1, 1) := by decide +kernel
theorem dL_law_602 : decode cL_law 602 = .ok (.iadd, 1) := by decide +kernel
theorem dL_law_603 : decode cL_law 603 = .ok (.iaload, 1) := by decide +kernel
theorem dL_law_604 : decode cL_law 604 = .ok (.aload_n 0, 1) := by decide +kernel
theorem dL_law_605 : decode cL_law 605 = .ok (.iload_n 3, 1) := by decide +kernel
theorem dL_law_606 : decode cL_law 606 = .ok (.iconst 2, 1) := by decide +kernel
theorem dL_law_607 : decode cL_law 607 = .ok (.iadd, 1) := by decide +kernel
theorem dL_law_608 : decode cL_law 608 = .ok (.iaload, 1) := by decide +kernel
theorem dL_law_609 : decode cL_law 609 = .ok (.invokevirtual 78, 3) := by decide +kernel
theorem dL_law_612 : decode cL_law 612 = .ok (.if_icmp .eq 88, 3) := by decide +kernel
theorem dL_law_615 : decode cL_law 615 = .ok (.iconst 0, 1) := by decide +kernel
theorem dL_law_616 : decode cL_law 616 = .ok (.ireturn, 1) := by decide +kernel
theorem dL_law_617 : decode cL_law 617 = .ok (.aload_n 1, 1) := by decide +kernel
theorem dL_law_618 : decode cL_law 618 = .ok (.aload_n 0, 1) := by decide +kernel
theorem dL_law_619 : decode cL_law 619 = .ok (.iload_n 3, 1) := by decide +kernel
theorem dL_law_620 : decode cL_law 620 = .ok (.iconst 1, 1) := by decide +kernel
theorem dL_law_621 : decode cL_law 621 = .ok (.iadd, 1) := by decide +kernel
theorem dL_law_622 : decode cL_law 622 = .ok (.iaload, 1) := by decide +kernel
theorem dL_law_623 : decode cL_law 623 = .ok (.invokevirtual 79, 3) := by decide +kernel
theorem dL_law_626 : decode cL_law 626 = .ok (.aload_n 2, 1) := by decide +kernel
theorem dL_law_627 : decode cL_law 627 = .ok (.aload_n 0, 1) := by decide +kernel
theorem dL_law_628 : decode cL_law 628 = .ok (.iload_n 3, 1) := by decide +kernel
theorem dL_law_629 : decode cL_law 629 = .ok (.iconst 1, 1) := by decide +kernel
theorem dL_law_630 : decode cL_law 630 = .ok (.iadd, 1) := by decide +kernel
theorem dL_law_631 : decode cL_law 631 = .ok (.iaload, 1) := by decide +kernel
theorem dL_law_632 : decode cL_law 632 = .ok (.invokevirtual 82, 3) := by decide +kernel
theorem dL_law_635 : decode cL_law 635 = .ok (.if_icmp .eq 65, 3) := by decide +kernel
theorem dL_law_638 : decode cL_law 638 = .ok (.iconst 0, 1) := by decide +kernel
theorem dL_law_639 : decode cL_law 639 = .ok (.ireturn, 1) := by decide +kernel
theorem dL_law_640 : decode cL_law 640 = .ok (.aload_n 1, 1) := by decide +kernel
theorem dL_law_641 : decode cL_law 641 = .ok (.aload_n 0, 1) := by decide +kernel
theorem dL_law_642 : decode cL_law 642 = .ok (.iload_n 3, 1) := by decide +kernel
theorem dL_law_643 : decode cL_law 643 = .ok (.iconst 1, 1) := by decide +kernel
theorem dL_law_644 : decode cL_law 644 = .ok (.iadd, 1) := by decide +kernel
theorem dL_law_645 : decode cL_law 645 = .ok (.iaload, 1) := by decide +kernel
theorem dL_law_646 : decode cL_law 646 = .ok (.invokevirtual 83, 3) := by decide +kernel
theorem dL_law_649 : decode cL_law 649 = .ok (.aload_n 2, 1) := by decide +kernel
theorem dL_law_650 : decode cL_law 650 = .ok (.aload_n 0, 1) := by decide +kernel
theorem dL_law_651 : decode cL_law 651 = .ok (.iload_n 3, 1) := by decide +kernel
theorem dL_law_652 : decode cL_law 652 = .ok (.iconst 1, 1) := by decide +kernel
theorem dL_law_653 : decode cL_law 653 = .ok (.iadd, 1) := by decide +kernel
theorem dL_law_654 : decode cL_law 654 = .ok (.iaload, 1) := by decide +kernel
theorem dL_law_655 : decode cL_law 655 = .ok (.invokevirtual 86, 3) := by decide +kernel
theorem dL_law_658 : decode cL_law 658 = .ok (.if_icmp .eq 42, 3) := by decide +kernel
theorem dL_law_661 : decode cL_law 661 = .ok (.iconst 0, 1) := by decide +kernel
theorem dL_law_662 : decode cL_law 662 = .ok (.ireturn, 1) := by decide +kernel
theorem dL_law_663 : decode cL_law 663 = .ok (.aload_n 1, 1) := by decide +kernel
theorem dL_law_664 : decode cL_law 664 = .ok (.aload_n 0, 1) := by decide +kernel
theorem dL_law_665 : decode cL_law 665 = .ok (.iload_n 3, 1) := by decide +kernel
theorem dL_law_666 : decode cL_law 666 = .ok (.iconst 1, 1) := by decide +kernel
theorem dL_law_667 : decode cL_law 667 = .ok (.iadd, 1) := by decide +kernel
theorem dL_law_668 : decode cL_law 668 = .ok (.iaload, 1) := by decide +kernel
theorem dL_law_669 : decode cL_law 669 = .ok (.invokevirtual 87, 3) := by decide +kernel
theorem dL_law_672 : decode cL_law 672 = .ok (.aload_n 2, 1) := by decide +kernel
theorem dL_law_673 : decode cL_law 673 = .ok (.aload_n 0, 1) := by decide +kernel
theorem dL_law_674 : decode cL_law 674 = .ok (.iload_n 3, 1) := by decide +kernel
theorem dL_law_675 : decode cL_law 675 = .ok (.iconst 1, 1) := by decide +kernel
theorem dL_law_676 : decode cL_law 676 = .ok (.iadd, 1) := by decide +kernel
theorem dL_law_677 : decode cL_law 677 = .ok (.iaload, 1) := by decide +kernel
theorem dL_law_678 : decode cL_law 678 = .ok (.invokevirtual 90, 3) := by decide +kernel
theorem dL_law_681 : decode cL_law 681 = .ok (.if_icmp .eq 19, 3) := by decide +kernel
theorem dL_law_684 : decode cL_law 684 = .ok (.iconst 0, 1) := by decide +kernel
theorem dL_law_685 : decode cL_law 685 = .ok (.ireturn, 1) := by decide +kernel
theorem dL_law_686 : decode cL_law 686 = .ok (.aload_n 1, 1) := by decide +kernel
theorem dL_law_687 : decode cL_law 687 = .ok (.invokevirtual 91, 3) := by decide +kernel
theorem dL_law_690 : decode cL_law 690 = .ok (.aload_n 2, 1) := by decide +kernel
theorem dL_law_691 : decode cL_law 691 = .ok (.invokevirtual 95, 3) := by decide +kernel
theorem dL_law_694 : decode cL_law 694 = .ok (.lcmp, 1) := by decide +kernel
theorem dL_law_695 : decode cL_law 695 = .ok (.ifCond .eq 5, 3) := by decide +kernel
theorem dL_law_698 : decode cL_law 698 = .ok (.iconst 0, 1) := by decide +kernel
theorem dL_law_699 : decode cL_law 699 = .ok (.ireturn, 1) := by decide +kernel
theorem dL_law_700 : decode cL_law 700 = .ok (.iinc 3 7, 3) := by decide +kernel
theorem dL_law_703 : decode cL_law 703 = .ok (.goto (-685), 3) := by decide +kernel
theorem dL_law_706 : decode cL_law 706 = .ok (.iconst 1, 1) := by decide +kernel
theorem dL_law_707 : decode cL_law 707 = .ok (.ireturn, 1) := by decide +kernel
abbrev vwCl : List vw_C := [(RX0, TX0, 8), (RX1, TX1, 6), (RX2, TX2, 2), (RX3, TX3, 7), (RX4, TX4, 4), (RX5, TX5, 5), (RX6, TX6, 19)]
end
section
/-! BASE: one bundle of what the tables say (kE), contracts' beginnings (cd_m..), calls of readers (cd_r..) and of writers (cd_w..) -/
def cd_nest : Cond → Bool
  | .fieldLinkNest _ _ _ _ _ _ => true
  | .methodLinkNest _ _ _ _ => true
  | _ => false
def cd_nw : List Cond := [.fieldLinkNest RX5 107 RX3 "tries" "I" RX5, .fieldLinkNest RX5 167 RX0 "agreed" "I" RX5, .fieldLinkNest RX5 184 RX1 "room" "I" RX5, .fieldLinkNest RX5 95 RX3 "isOn" "Z" RX5, .fieldLinkNest RX2 23 RX3 "isOn" "Z" RX5, .fieldLinkNest RX5 99 RX2 "size" "I" RX5, .fieldLinkNest RX0 46 RX1 "leak" "I" RX5, .fieldLinkNest RX5 130 RX1 "leak" "I" RX5, .fieldLinkNest RX0 55 RX1 "bar" "I" RX5, .fieldLinkNest RX5 113 RX1 "bar" "I" RX5, .fieldLinkNest RX0 81 RX4 "size" "I" RX5, .fieldLinkNest RX5 153 RX4 "size" "I" RX5, .fieldLinkNest RX2 35 RX3 "worth" "I" RX5, .methodLinkNest RX5 18 yX2_init RX5, .methodLinkNest RX5 25 yX4_init RX5, .methodLinkNest RX5 9 yX1_init RX5, .methodLinkNest RX0 100 yX5_put RX5, .methodLinkNest RX0 104 yX5_at RX5, .methodLinkNest RX0 42 yX5_within RX5, .methodLinkNest RX1 31 yX5_put RX5, .methodLinkNest RX1 35 yX5_at RX5, .methodLinkNest RX4 23 yX5_put RX5, .methodLinkNest RX4 36 yX5_at RX5]
theorem cd_nw_nest : ∀ w ∈ cd_nw, cd_nest w = true := by decide +kernel
theorem cd_nest_warm {s U : State} (hW : s.WarmedH U.vm) {w : Cond} (hn : cd_nest w = true) (h : va_Nw w s) : va_Nw w U := by
  cases w <;> first | exact va_Nw.warmF hW h | exact va_Nw.warmM hW h | (simp [cd_nest] at hn)
theorem cd_nest_on {w : Cond} (hn : cd_nest w = true) : w.onTables = true := by
  cases w <;> first | rfl | (simp [cd_nest] at hn)
abbrev cd_tys (cI cQ cZ : ClassId) : List (ClassId × FieldType) := [(cI, .int), (cQ, .object "CellDays$Duty"), (cZ, .boolean)]
/-- what the tables say, once for all: classes, array classes, the nest's links, the array class over Duty -/
def kE (dC : Nat → ClassId) (dI : Nat → Nat → Nat) (cI cQ cZ : ClassId) (U : State) : Prop := va_K (dC, dI) vwCl (cd_tys cI cQ cZ) U ∧ (∀ w ∈ cd_nw, va_Nw w U) ∧ va_AO "CellDays$Duty" U
theorem kE.moved {dC : Nat → ClassId} {dI : Nat → Nat → Nat} {cI cQ cZ : ClassId} {s U : State} (hW : s.WarmedH U.vm) (h : kE dC dI cI cQ cZ s) : kE dC dI cI cQ cZ U := ⟨va_K.moved hW.alike h.1, fun w hw => cd_nest_warm hW (cd_nw_nest w hw) (h.2.1 w hw), va_AO.moved hW.alike h.2.2⟩
theorem kE.calling {dC : Nat → ClassId} {dI : Nat → Nat → Nat} {cI cQ cZ : ClassId} {U : State} (g : JFrame) (mk : MethodId) (a : Array Value) (h : kE dC dI cI cQ cZ U) : kE dC dI cI cQ cZ (U.calling g mk a) := ⟨va_K.moved (u := U) (U := U.calling g mk a) (Vm.Alike.refl U.vm) h.1, fun w hw => va_Nw.same (cd_nest_on (cd_nw_nest w hw)) (u := U) (U := U.calling g mk a) rfl (h.2.1 w hw), va_AO.moved (u := U) (U := U.calling g mk a) (Vm.Alike.refl U.vm) h.2.2⟩
section CDM
variable {l : Launch} {y : MethodName} {ws ws' : List Cond} {rm : Room} {cc : ByteArray} {maxL mc ms sz : Nat} {dC : Nat → ClassId} {dI : Nat → Nat → Nat} {cI cQ cZ : ClassId} {W0 W1 : va_W}
/-- any contract: the walk from the first instruction -/
theorem cd_mW {B : State → Prop} {Qc : Array Value → State → Outcome → State → Prop} {free : Addr → Prop} {ret : Option FieldType} (av : List Value) (hy : plainName y.cls = true) (hw : ws = Cond.code y cc maxL ret :: ws') (hav : (lg_sl av).length ≤ maxL)
    (body : ∀ (p : Program) (e : Env) (s : State) (m : MethodId) (args : Array Value) (below : List Frame) (meth : Method) (c : Code) (ls : Array Slot), p.tables.exec = Jvm.exec → c.code = cc → c.maxLocals = maxL → meth.sig.returnType = ret → s.vm.findClass y.cls = some m.cls → (∀ w ∈ ws, w.before args s = true) → meth.locks = false → meth.name = y.name → B s → lv_has ls maxL (lv_args 0 av) →
      W p l e rm s m args below meth c s.heap [] 0 0 (MQ below Qc args s mc ms free) (F0 m 0 ls [])) : Met l y ws rm (va_Pc av B) Qc mc ms free := by
  refine Met.ofW (cc := cc) (maxL := maxL) (ret := ret) hy hw ?_
  intro p e s m args below meth c s₁ Bd hml hv
  obtain ⟨ha, hB⟩ := hv
  have hl := lv_entry av (n := maxL) hav
  subst ha
  rw [lg_entry_eq]
  exact body p e s m _ below meth c _ Bd.exec Bd.bytes hml Bd.returns (findClass_of_methodNamed Bd.named) (atoms_spec (ws := ws) Bd.pre) Bd.notSynchronized (name_of_methodNamed Bd.named Bd.method).1 hB hl
/-- a reader that answers an int -/
theorem cd_mRi {B : State → Prop} {ex : Int32} (av : List Value) (hy : plainName y.cls = true) (hw : ws = Cond.code y cc maxL (some .int) :: ws') (hav : (lg_sl av).length ≤ maxL)
    (body : ∀ (Q : State → Prop) (p : Program) (e : Env) (s : State) (m : MethodId) (args : Array Value) (below : List Frame) (meth : Method) (c : Code) (ls : Array Slot), p.tables.exec = Jvm.exec → c.code = cc → c.maxLocals = maxL → s.vm.findClass y.cls = some m.cls → (∀ w ∈ ws, w.before args s = true) →
      (∀ (pc : Nat) (ls : Array Slot), decode cc pc = .ok (.ireturn, 1) → W p l e rm s m args below meth c s.heap [] 0 0 Q (F0 m pc ls [.int ex])) → B s → lv_has ls maxL (lv_args 0 av) →
      W p l e rm s m args below meth c s.heap [] 0 0 Q (F0 m 0 ls [])) : Met l y ws rm (va_Pc av B) (vp_Si (fun r => r = ex)) 0 0 (fun _ => False) :=
  cd_mW av hy hw hav (fun p e s m args below meth c ls hx hb hml hr hown hts hlocks _ hB hl => body _ p e s m args below meth c ls hx hb hml hown hts (fun pc ls hd => W.iret hx hb hr (fun t ht _ => ⟨ex, rfl, rfl, ht⟩) (fun q h => by cases h) hd hlocks) hB hl)
/-- a reader that answers a boolean -/
theorem cd_mRz {B : State → Prop} {ex : Int32} (av : List Value) (hy : plainName y.cls = true) (hw : ws = Cond.code y cc maxL (some .boolean) :: ws') (hav : (lg_sl av).length ≤ maxL)
    (body : ∀ (Q : State → Prop) (p : Program) (e : Env) (s : State) (m : MethodId) (args : Array Value) (below : List Frame) (meth : Method) (c : Code) (ls : Array Slot), p.tables.exec = Jvm.exec → c.code = cc → c.maxLocals = maxL → s.vm.findClass y.cls = some m.cls → (∀ w ∈ ws, w.before args s = true) →
      (∀ (pc : Nat) (ls : Array Slot), narrow .boolean (.int ex) = .int ex → decode cc pc = .ok (.ireturn, 1) → W p l e rm s m args below meth c s.heap [] 0 0 Q (F0 m pc ls [.int ex])) → B s → lv_has ls maxL (lv_args 0 av) →
      W p l e rm s m args below meth c s.heap [] 0 0 Q (F0 m 0 ls [])) : Met l y ws rm (va_Pc av B) (vp_Si (fun r => r = ex)) 0 0 (fun _ => False) :=
  cd_mW av hy hw hav (fun p e s m args below meth c ls hx hb hml hr hown hts hlocks _ hB hl => body _ p e s m args below meth c ls hx hb hml hown hts (fun pc ls hn hd => W.zret hx hb hr hn (fun t ht _ => ⟨ex, rfl, rfl, ht⟩) (fun q h => by cases h) hd hlocks) hB hl)
/-- a reader that answers a long -/
theorem cd_mRl {B : State → Prop} {ex : Int64} (av : List Value) (hy : plainName y.cls = true) (hw : ws = Cond.code y cc maxL (some .long) :: ws') (hav : (lg_sl av).length ≤ maxL)
    (body : ∀ (Q : State → Prop) (p : Program) (e : Env) (s : State) (m : MethodId) (args : Array Value) (below : List Frame) (meth : Method) (c : Code) (ls : Array Slot), p.tables.exec = Jvm.exec → c.code = cc → c.maxLocals = maxL → s.vm.findClass y.cls = some m.cls → (∀ w ∈ ws, w.before args s = true) →
      (∀ (pc : Nat) (ls : Array Slot), decode cc pc = .ok (.lreturn, 1) → W p l e rm s m args below meth c s.heap [] 0 0 Q (F0 m pc ls [.long ex])) → B s → lv_has ls maxL (lv_args 0 av) →
      W p l e rm s m args below meth c s.heap [] 0 0 Q (F0 m 0 ls [])) : Met l y ws rm (va_Pc av B) (vp_Sl (fun r => r = ex)) 0 0 (fun _ => False) :=
  cd_mW av hy hw hav (fun p e s m args below meth c ls hx hb hml hr hown hts hlocks _ hB hl => body _ p e s m args below meth c ls hx hb hml hown hts (fun pc ls hd => W.lret hx hb hr (fun t ht _ => ⟨ex, rfl, rfl, ht⟩) (fun q h => by cases h) hd hlocks) hB hl)
/-- a reader that answers a duty, or null -/
theorem cd_mRq {B : State → Prop} {ex : Option Nat} {C : String} (av : List Value) (hy : plainName y.cls = true) (hw : ws = Cond.code y cc maxL (some (.object C)) :: ws') (hav : (lg_sl av).length ≤ maxL)
    (body : ∀ (Q : State → Prop) (p : Program) (e : Env) (s : State) (m : MethodId) (args : Array Value) (below : List Frame) (meth : Method) (c : Code) (ls : Array Slot), p.tables.exec = Jvm.exec → c.code = cc → c.maxLocals = maxL → s.vm.findClass y.cls = some m.cls → (∀ w ∈ ws, w.before args s = true) →
      (∀ (pc : Nat) (ls : Array Slot), decode cc pc = .ok (.areturn, 1) → W p l e rm s m args below meth c s.heap [] 0 0 Q (F0 m pc ls [va_rf ex])) → B s → lv_has ls maxL (lv_args 0 av) →
      W p l e rm s m args below meth c s.heap [] 0 0 Q (F0 m 0 ls [])) : Met l y ws rm (va_Pc av B) (va_Sq (fun r => r = ex)) 0 0 (fun _ => False) :=
  cd_mW av hy hw hav (fun p e s m args below meth c ls hx hb hml hr hown hts hlocks _ hB hl => body _ p e s m args below meth c ls hx hb hml hown hts (fun pc ls hd => W.aret hx hb hr (Or.inl ⟨_, rfl⟩) (va_rf_or ex) (fun t ht _ => ⟨ex, rfl, rfl, ht⟩) (fun q h => by cases h) hd hlocks) hB hl)
abbrev cd_pre (dC : Nat → ClassId) (dI : Nat → Nat → Nat) (cI cQ cZ : ClassId) (W0 : va_W) (sz : Nat) (U : State) : Prop := U.heap.size = sz ∧ kE dC dI cI cQ cZ U ∧ va_P (dC, dI) vwCl W0 U.heap ∧ va_D (fun _ => True) W0
abbrev cd_post (dC : Nat → ClassId) (dI : Nat → Nat → Nat) (W0 W1 : va_W) (sz : Nat) (_ : Unit) (t : State) : Prop := va_P (dC, dI) vwCl W1 t.heap ∧ va_D (va_A W0 sz) W1
/-- a writer that answers an int -/
theorem cd_mMi {r0 : Int32} (av : List Value) (hy : plainName y.cls = true) (hw : ws = Cond.code y cc maxL (some .int) :: ws') (hav : (lg_sl av).length ≤ maxL)
    (body : ∀ (Q : State → Prop) (A : Nat → Prop) (p : Program) (e : Env) (s : State) (m : MethodId) (args : Array Value) (below : List Frame) (meth : Method) (c : Code) (ls : Array Slot), p.tables.exec = Jvm.exec → c.code = cc → c.maxLocals = maxL → s.vm.findClass y.cls = some m.cls → (∀ w ∈ ws, w.before args s = true) → (∀ q, s.heap.size ≤ q → A q) →
      (∀ (pc : Nat) (ls : Array Slot) (H : Heap) (locs : List Loc), decode cc pc = .ok (.ireturn, 1) → va_P (dC, dI) vwCl W1 H → va_D A W1 → va_S A s.heap H locs → W p l e rm s m args below meth c H locs mc ms Q (F0 m pc ls [.int r0])) →
      kE dC dI cI cQ cZ s → va_P (dC, dI) vwCl W0 s.heap → va_D A W0 → va_S A s.heap s.heap [] → lv_has ls maxL (lv_args 0 av) →
      W p l e rm s m args below meth c s.heap [] 0 0 Q (F0 m 0 ls [])) : Met l y ws rm (va_Pc av (cd_pre dC dI cI cQ cZ W0 sz)) (va_Qi (fun r _ => r = r0) (cd_post dC dI W0 W1 sz) (va_A W0 sz)) mc ms (va_A W0 sz) :=
  cd_mW av hy hw hav (fun p e s m args below meth c ls hx hb hml hr hown hts hlocks _ hB hl => by
    obtain ⟨hsz, hK, hP, hD0⟩ := hB
    subst hsz
    exact body _ (va_A W0 s.heap.size) p e s m args below meth c ls hx hb hml hown hts (fun q h => Or.inr h) (fun pc ls H locs hd hP1 hD1 hS1 => W.iret hx hb hr (fun t ht _ => ⟨⟨r0, (), rfl, rfl, by rw [ht]; exact hP1, hD1⟩, hS1.F ht⟩) hS1.2.2 hd hlocks) hK hP hD0.self va_S.rf hl)
/-- a writer that answers a boolean -/
theorem cd_mMz {r0 : Int32} (av : List Value) (hy : plainName y.cls = true) (hw : ws = Cond.code y cc maxL (some .boolean) :: ws') (hav : (lg_sl av).length ≤ maxL)
    (body : ∀ (Q : State → Prop) (A : Nat → Prop) (p : Program) (e : Env) (s : State) (m : MethodId) (args : Array Value) (below : List Frame) (meth : Method) (c : Code) (ls : Array Slot), p.tables.exec = Jvm.exec → c.code = cc → c.maxLocals = maxL → s.vm.findClass y.cls = some m.cls → (∀ w ∈ ws, w.before args s = true) → (∀ q, s.heap.size ≤ q → A q) →
      (∀ (pc : Nat) (ls : Array Slot) (H : Heap) (locs : List Loc), narrow .boolean (.int r0) = .int r0 → decode cc pc = .ok (.ireturn, 1) → va_P (dC, dI) vwCl W1 H → va_D A W1 → va_S A s.heap H locs → W p l e rm s m args below meth c H locs mc ms Q (F0 m pc ls [.int r0])) →
      kE dC dI cI cQ cZ s → va_P (dC, dI) vwCl W0 s.heap → va_D A W0 → va_S A s.heap s.heap [] → lv_has ls maxL (lv_args 0 av) →
      W p l e rm s m args below meth c s.heap [] 0 0 Q (F0 m 0 ls [])) : Met l y ws rm (va_Pc av (cd_pre dC dI cI cQ cZ W0 sz)) (va_Qi (fun r _ => r = r0) (cd_post dC dI W0 W1 sz) (va_A W0 sz)) mc ms (va_A W0 sz) :=
  cd_mW av hy hw hav (fun p e s m args below meth c ls hx hb hml hr hown hts hlocks _ hB hl => by
    obtain ⟨hsz, hK, hP, hD0⟩ := hB
    subst hsz
    exact body _ (va_A W0 s.heap.size) p e s m args below meth c ls hx hb hml hown hts (fun q h => Or.inr h) (fun pc ls H locs hn hd hP1 hD1 hS1 => W.zret hx hb hr hn (fun t ht _ => ⟨⟨r0, (), rfl, rfl, by rw [ht]; exact hP1, hD1⟩, hS1.F ht⟩) hS1.2.2 hd hlocks) hK hP hD0.self va_S.rf hl)
/-- a writer that answers a long -/
theorem cd_mMl {r0 : Int64} (av : List Value) (hy : plainName y.cls = true) (hw : ws = Cond.code y cc maxL (some .long) :: ws') (hav : (lg_sl av).length ≤ maxL)
    (body : ∀ (Q : State → Prop) (A : Nat → Prop) (p : Program) (e : Env) (s : State) (m : MethodId) (args : Array Value) (below : List Frame) (meth : Method) (c : Code) (ls : Array Slot), p.tables.exec = Jvm.exec → c.code = cc → c.maxLocals = maxL → s.vm.findClass y.cls = some m.cls → (∀ w ∈ ws, w.before args s = true) → (∀ q, s.heap.size ≤ q → A q) →
      (∀ (pc : Nat) (ls : Array Slot) (H : Heap) (locs : List Loc), decode cc pc = .ok (.lreturn, 1) → va_P (dC, dI) vwCl W1 H → va_D A W1 → va_S A s.heap H locs → W p l e rm s m args below meth c H locs mc ms Q (F0 m pc ls [.long r0])) →
      kE dC dI cI cQ cZ s → va_P (dC, dI) vwCl W0 s.heap → va_D A W0 → va_S A s.heap s.heap [] → lv_has ls maxL (lv_args 0 av) →
      W p l e rm s m args below meth c s.heap [] 0 0 Q (F0 m 0 ls [])) : Met l y ws rm (va_Pc av (cd_pre dC dI cI cQ cZ W0 sz)) (va_Ql (fun r _ => r = r0) (cd_post dC dI W0 W1 sz) (va_A W0 sz)) mc ms (va_A W0 sz) :=
  cd_mW av hy hw hav (fun p e s m args below meth c ls hx hb hml hr hown hts hlocks _ hB hl => by
    obtain ⟨hsz, hK, hP, hD0⟩ := hB
    subst hsz
    exact body _ (va_A W0 s.heap.size) p e s m args below meth c ls hx hb hml hown hts (fun q h => Or.inr h) (fun pc ls H locs hd hP1 hD1 hS1 => W.lret hx hb hr (fun t ht _ => ⟨⟨r0, (), rfl, rfl, by rw [ht]; exact hP1, hD1⟩, hS1.F ht⟩) hS1.2.2 hd hlocks) hK hP hD0.self va_S.rf hl)
/-- a writer that answers nothing; also a constructor -/
theorem cd_mMv (av : List Value) (hy : plainName y.cls = true) (hw : ws = Cond.code y cc maxL none :: ws') (hav : (lg_sl av).length ≤ maxL)
    (body : ∀ (Q : State → Prop) (A : Nat → Prop) (p : Program) (e : Env) (s : State) (m : MethodId) (args : Array Value) (below : List Frame) (meth : Method) (c : Code) (ls : Array Slot), p.tables.exec = Jvm.exec → c.code = cc → c.maxLocals = maxL → s.vm.findClass y.cls = some m.cls → (∀ w ∈ ws, w.before args s = true) → (∀ q, s.heap.size ≤ q → A q) → meth.name = y.name →
      (∀ (pc : Nat) (ls : Array Slot) (H : Heap) (locs : List Loc), decode cc pc = .ok (.return_, 1) → va_P (dC, dI) vwCl W1 H → va_D A W1 → va_S A s.heap H locs → W p l e rm s m args below meth c H locs mc ms Q (F0 m pc ls [])) →
      kE dC dI cI cQ cZ s → va_P (dC, dI) vwCl W0 s.heap → va_D A W0 → va_S A s.heap s.heap [] → lv_has ls maxL (lv_args 0 av) →
      W p l e rm s m args below meth c s.heap [] 0 0 Q (F0 m 0 ls [])) : Met l y ws rm (va_Pc av (cd_pre dC dI cI cQ cZ W0 sz)) (va_Qv (fun _ => True) (cd_post dC dI W0 W1 sz) (va_A W0 sz)) mc ms (va_A W0 sz) :=
  cd_mW av hy hw hav (fun p e s m args below meth c ls hx hb hml hr hown hts hlocks hnm hB hl => by
    obtain ⟨hsz, hK, hP, hD0⟩ := hB
    subst hsz
    exact body _ (va_A W0 s.heap.size) p e s m args below meth c ls hx hb hml hown hts (fun q h => Or.inr h) hnm (fun pc ls H locs hd hP1 hD1 hS1 => W.vret hx hb hr (fun t ht _ => ⟨⟨(), rfl, trivial, by rw [ht]; exact hP1, hD1⟩, hS1.F ht⟩) hS1.2.2 hd hlocks) hK hP hD0.self va_S.rf hl)
end CDM
section CDR
variable {p : Program} {l : Launch} {e : Env} {R : Room} {s : State} {m : MethodId} {args : Array Value} {below : List Frame} {meth : Method} {c : Code} {H : Heap} {locs : List Loc} {cells slots : Nat} {Q : State → Prop}
variable {pc : Nat} {ls : Array Slot} {rest st0 : List Value} {cc bytes : ByteArray} {nL maxL index n b ci mc ms : Nat} {Ts ws ws' : List Cond} {own C host : String} {y : MethodName} {rm : Room} {ret : Option FieldType} {As : List Value} {W0 W1 : va_W} {dC : Nat → ClassId} {dI : Nat → Nat → Nat} {cI cQ cZ : ClassId} {q : vw_C} {fs : List Value} {A0 : Nat → Prop}
abbrev cd_rp (dC : Nat → ClassId) (dI : Nat → Nat → Nat) (cI cQ cZ : ClassId) (W0 : va_W) (U : State) : Prop := kE dC dI cI cQ cZ U ∧ va_P (dC, dI) vwCl W0 U.heap
theorem cd_fb {av : List Value} : FrameBlind (va_Pc av (cd_rp dC dI cI cQ cZ W0)) := fun a U g mk h => ⟨h.1, h.2.1.calling g mk a, h.2.2⟩
theorem cd_fbM {av : List Value} {sz : Nat} : FrameBlind (va_Pc av (cd_pre dC dI cI cQ cZ W0 sz)) := fun a U g mk h => ⟨h.1, h.2.1, h.2.2.1.calling g mk a, h.2.2.2⟩
theorem cd_pS (hK : kE dC dI cI cQ cZ s) (hP : va_P (dC, dI) vwCl W0 H) : PreS s H (va_Pc As (cd_rp dC dI cI cQ cZ W0)) As := ⟨cd_fb, fun U hU hW => ⟨rfl, hK.moved hW, by rw [hU]; exact hP⟩⟩
theorem cd_pSM (hK : kE dC dI cI cQ cZ s) (hP : va_P (dC, dI) vwCl W0 H) (hD : va_D A0 W0) : PreS s H (va_Pc As (cd_pre dC dI cI cQ cZ W0 H.size)) As := ⟨cd_fbM, fun U hU hW => ⟨rfl, by rw [hU], hK.moved hW, by rw [hU]; exact hP, hD.weaken (fun _ _ _ _ => trivial)⟩⟩
theorem cd_pV (hK : kE dC dI cI cQ cZ s) (hP : va_P (dC, dI) vwCl W0 H) (hc : vwCl[ci]? = some q) (he : W0[0]? = some (b, .inr (ci, fs))) : PreV s H q.1 b (va_Pc (.ref b :: As) (cd_rp dC dI cI cQ cZ W0)) As := ⟨cd_fb, va_recv hK.1 hP hc he, fun U hU hW => ⟨rfl, hK.moved hW, by rw [hU]; exact hP⟩⟩
theorem cd_pVM (hK : kE dC dI cI cQ cZ s) (hP : va_P (dC, dI) vwCl W0 H) (hD : va_D A0 W0) (hc : vwCl[ci]? = some q) (he : W0[0]? = some (b, .inr (ci, fs))) : PreV s H q.1 b (va_Pc (.ref b :: As) (cd_pre dC dI cI cQ cZ W0 H.size)) As := ⟨cd_fbM, va_recv hK.1 hP hc he, fun U hU hW => ⟨rfl, by rw [hU], hK.moved hW, by rw [hU]; exact hP, hD.weaken (fun _ _ _ _ => trivial)⟩⟩
/-- readers called: virtual, static, static of the nest; the answer an int, a long, a duty or null -/
theorem cd_rV {v : Int32} (S : CallFix p m c cc nL s args Ts own) (hM : Met l y ws rm (va_Pc (.ref b :: As) (cd_rp dC dI cI cQ cZ W0)) (vp_Si (fun r => r = v)) 0 0 (fun _ => False)) (cw : CallW R s args own q.1 index y bytes maxL ret ws rm 0 0 n) (hK : kE dC dI cI cQ cZ s) (hP : va_P (dC, dI) vwCl W0 H) (hc : vwCl[ci]? = some q) (he : W0[0]? = some (b, .inr (ci, fs))) (hn : As.length = n) (hsz : ls.size = nL) (hst : st0 = As.reverse ++ .ref b :: rest) (hW : (rest.map fun v => v.category).sum ≤ 8) (hdg : decode cc pc = .ok (.invokevirtual index, 3)) (hf : cells ≤ R.cells ∧ slots ≤ R.slots)
    (kk : W p l e R s m args below meth c H locs cells slots Q (F0 m (pc + 3) ls (.int v :: rest))) : W p l e R s m args below meth c H locs cells slots Q (F0 m pc ls st0) :=
  vp_callSi (W.runV S hM cw (cd_pV hK hP hc he) rfl hn hsz hst (lv_room hW) hdg hf) (fun r hr => by subst hr; exact kk)
theorem cd_rVq {v : Option Nat} (S : CallFix p m c cc nL s args Ts own) (hM : Met l y ws rm (va_Pc (.ref b :: As) (cd_rp dC dI cI cQ cZ W0)) (va_Sq (fun r => r = v)) 0 0 (fun _ => False)) (cw : CallW R s args own q.1 index y bytes maxL ret ws rm 0 0 n) (hK : kE dC dI cI cQ cZ s) (hP : va_P (dC, dI) vwCl W0 H) (hc : vwCl[ci]? = some q) (he : W0[0]? = some (b, .inr (ci, fs))) (hn : As.length = n) (hsz : ls.size = nL) (hst : st0 = As.reverse ++ .ref b :: rest) (hW : (rest.map fun v => v.category).sum ≤ 8) (hdg : decode cc pc = .ok (.invokevirtual index, 3)) (hf : cells ≤ R.cells ∧ slots ≤ R.slots)
    (kk : W p l e R s m args below meth c H locs cells slots Q (F0 m (pc + 3) ls (va_rf v :: rest))) : W p l e R s m args below meth c H locs cells slots Q (F0 m pc ls st0) :=
  va_csq (W.runV S hM cw (cd_pV hK hP hc he) rfl hn hsz hst (lv_room hW) hdg hf) (fun r hr => by subst hr; exact kk)
theorem cd_rVl {v : Int64} (S : CallFix p m c cc nL s args Ts own) (hM : Met l y ws rm (va_Pc (.ref b :: As) (cd_rp dC dI cI cQ cZ W0)) (vp_Sl (fun r => r = v)) 0 0 (fun _ => False)) (cw : CallW R s args own q.1 index y bytes maxL ret ws rm 0 0 n) (hK : kE dC dI cI cQ cZ s) (hP : va_P (dC, dI) vwCl W0 H) (hc : vwCl[ci]? = some q) (he : W0[0]? = some (b, .inr (ci, fs))) (hn : As.length = n) (hsz : ls.size = nL) (hst : st0 = As.reverse ++ .ref b :: rest) (hW : (rest.map fun v => v.category).sum ≤ 8) (hdg : decode cc pc = .ok (.invokevirtual index, 3)) (hf : cells ≤ R.cells ∧ slots ≤ R.slots)
    (kk : W p l e R s m args below meth c H locs cells slots Q (F0 m (pc + 3) ls (.long v :: rest))) : W p l e R s m args below meth c H locs cells slots Q (F0 m pc ls st0) :=
  vp_callSl (W.runV S hM cw (cd_pV hK hP hc he) rfl hn hsz hst (lv_room hW) hdg hf) (fun r hr => by subst hr; exact kk)
theorem cd_rS {v : Int32} (S : CallFix p m c cc nL s args Ts own) (hM : Met l y ws rm (va_Pc As (cd_rp dC dI cI cQ cZ W0)) (vp_Si (fun r => r = v)) 0 0 (fun _ => False)) (cw : CallB R s args own index y bytes maxL ret ws rm 0 0 n ∧ (Cond.static y).before args s = true) (hK : kE dC dI cI cQ cZ s) (hP : va_P (dC, dI) vwCl W0 H) (hn : As.length = n) (hsz : ls.size = nL) (hst : st0 = As.reverse ++ rest) (hW : (rest.map fun v => v.category).sum ≤ 8) (hdg : decode cc pc = .ok (.invokestatic index, 3)) (hf : cells ≤ R.cells ∧ slots ≤ R.slots)
    (kk : W p l e R s m args below meth c H locs cells slots Q (F0 m (pc + 3) ls (.int v :: rest))) : W p l e R s m args below meth c H locs cells slots Q (F0 m pc ls st0) :=
  vp_callSi (W.runS S hM cw (cd_pS hK hP) rfl hn hsz hst (lv_room hW) hdg hf) (fun r hr => by subst hr; exact kk)
theorem cd_rSN {v : Int32} (S : CallFix p m c cc nL s args Ts own) (hM : Met l y ws rm (va_Pc As (cd_rp dC dI cI cQ cZ W0)) (vp_Si (fun r => r = v)) 0 0 (fun _ => False)) (cw : va_CN R s args own index y host bytes maxL ret ws rm 0 0 n ∧ (Cond.static y).before args s = true ∧ True) (hK : kE dC dI cI cQ cZ s) (hP : va_P (dC, dI) vwCl W0 H) (hn : As.length = n) (hsz : ls.size = nL) (hst : st0 = As.reverse ++ rest) (hW : (rest.map fun v => v.category).sum ≤ 8) (hdg : decode cc pc = .ok (.invokestatic index, 3)) (hf : cells ≤ R.cells ∧ slots ≤ R.slots)
    (kk : W p l e R s m args below meth c H locs cells slots Q (F0 m (pc + 3) ls (.int v :: rest))) : W p l e R s m args below meth c H locs cells slots Q (F0 m pc ls st0) :=
  vp_callSi (va_runSN S hM cw (cd_pS hK hP) rfl hn hsz hst (lv_room hW) hdg hf).run (fun r hr => by subst hr; exact kk)
/-- writers called: what came back of their cells, and that all else stands -/
theorem cd_wV {r0 : Int32} (S : CallFix p m c cc nL s args Ts own) (hM : Met l y ws rm (va_Pc (.ref b :: As) (cd_pre dC dI cI cQ cZ W0 H.size)) (va_Qi (fun r _ => r = r0) (cd_post dC dI W0 W1 H.size) (va_A W0 H.size)) mc ms (va_A W0 H.size)) (cw : CallW R s args own q.1 index y bytes maxL ret ws rm mc ms n) (hK : kE dC dI cI cQ cZ s) (hP : va_P (dC, dI) vwCl W0 H) (hD : va_D A0 W0) (hF : ∀ q, va_A W0 H.size q → A0 q) (hS : va_S A0 s.heap H locs) (hc : vwCl[ci]? = some q) (he : W0[0]? = some (b, .inr (ci, fs))) (hn : As.length = n) (hsz : ls.size = nL) (hst : st0 = As.reverse ++ .ref b :: rest) (hW : (rest.map fun v => v.category).sum ≤ 8) (hdg : decode cc pc = .ok (.invokevirtual index, 3)) (hf : cells + mc ≤ R.cells ∧ slots + ms ≤ R.slots)
    (kk : ∀ (H1 : Heap) (locs1 : List Loc), va_P (dC, dI) vwCl W1 H1 → va_D (va_A W0 H.size) W1 → (∀ q : Nat, q < H.size → ¬ va_A W0 H.size q → H1[q]? = H[q]?) → va_S A0 s.heap H1 locs1 → W p l e R s m args below meth c H1 locs1 (cells + mc) (slots + ms) Q (F0 m (pc + 3) ls (.int r0 :: rest))) : W p l e R s m args below meth c H locs cells slots Q (F0 m pc ls st0) :=
  va_calli (va_runV S hM cw (cd_pVM hK hP hD hc he) rfl hn hsz hst (lv_room hW) hdg hf) hS (fun q _ h => hF q h) hF (fun r u t H1 locs1 ht hvm hr hB hz hk hS1 => by subst hr; subst ht; exact kk _ locs1 hB.1 hB.2 hk hS1)
theorem cd_wVl {r0 : Int64} (S : CallFix p m c cc nL s args Ts own) (hM : Met l y ws rm (va_Pc (.ref b :: As) (cd_pre dC dI cI cQ cZ W0 H.size)) (va_Ql (fun r _ => r = r0) (cd_post dC dI W0 W1 H.size) (va_A W0 H.size)) mc ms (va_A W0 H.size)) (cw : CallW R s args own q.1 index y bytes maxL ret ws rm mc ms n) (hK : kE dC dI cI cQ cZ s) (hP : va_P (dC, dI) vwCl W0 H) (hD : va_D A0 W0) (hF : ∀ q, va_A W0 H.size q → A0 q) (hS : va_S A0 s.heap H locs) (hc : vwCl[ci]? = some q) (he : W0[0]? = some (b, .inr (ci, fs))) (hn : As.length = n) (hsz : ls.size = nL) (hst : st0 = As.reverse ++ .ref b :: rest) (hW : (rest.map fun v => v.category).sum ≤ 8) (hdg : decode cc pc = .ok (.invokevirtual index, 3)) (hf : cells + mc ≤ R.cells ∧ slots + ms ≤ R.slots)
    (kk : ∀ (H1 : Heap) (locs1 : List Loc), va_P (dC, dI) vwCl W1 H1 → va_D (va_A W0 H.size) W1 → (∀ q : Nat, q < H.size → ¬ va_A W0 H.size q → H1[q]? = H[q]?) → va_S A0 s.heap H1 locs1 → W p l e R s m args below meth c H1 locs1 (cells + mc) (slots + ms) Q (F0 m (pc + 3) ls (.long r0 :: rest))) : W p l e R s m args below meth c H locs cells slots Q (F0 m pc ls st0) :=
  va_calll (va_runV S hM cw (cd_pVM hK hP hD hc he) rfl hn hsz hst (lv_room hW) hdg hf) hS (fun q _ h => hF q h) hF (fun r u t H1 locs1 ht hvm hr hB hz hk hS1 => by subst hr; subst ht; exact kk _ locs1 hB.1 hB.2 hk hS1)
theorem cd_wVv (S : CallFix p m c cc nL s args Ts own) (hM : Met l y ws rm (va_Pc (.ref b :: As) (cd_pre dC dI cI cQ cZ W0 H.size)) (va_Qv (fun _ => True) (cd_post dC dI W0 W1 H.size) (va_A W0 H.size)) mc ms (va_A W0 H.size)) (cw : CallW R s args own q.1 index y bytes maxL ret ws rm mc ms n) (hK : kE dC dI cI cQ cZ s) (hP : va_P (dC, dI) vwCl W0 H) (hD : va_D A0 W0) (hF : ∀ q, va_A W0 H.size q → A0 q) (hS : va_S A0 s.heap H locs) (hc : vwCl[ci]? = some q) (he : W0[0]? = some (b, .inr (ci, fs))) (hn : As.length = n) (hsz : ls.size = nL) (hst : st0 = As.reverse ++ .ref b :: rest) (hW : (rest.map fun v => v.category).sum ≤ 8) (hdg : decode cc pc = .ok (.invokevirtual index, 3)) (hf : cells + mc ≤ R.cells ∧ slots + ms ≤ R.slots)
    (kk : ∀ (H1 : Heap) (locs1 : List Loc), va_P (dC, dI) vwCl W1 H1 → va_D (va_A W0 H.size) W1 → (∀ q : Nat, q < H.size → ¬ va_A W0 H.size q → H1[q]? = H[q]?) → va_S A0 s.heap H1 locs1 → W p l e R s m args below meth c H1 locs1 (cells + mc) (slots + ms) Q (F0 m (pc + 3) ls rest)) : W p l e R s m args below meth c H locs cells slots Q (F0 m pc ls st0) :=
  va_callv (va_runV S hM cw (cd_pVM hK hP hD hc he) rfl hn hsz hst (lv_room hW) hdg hf) hS (fun q _ h => hF q h) hF (fun u t H1 locs1 ht hvm hr hB hz hk hS1 => by subst ht; exact kk _ locs1 hB.1 hB.2 hk hS1)
theorem cd_wSv (S : CallFix p m c cc nL s args Ts own) (hM : Met l y ws rm (va_Pc As (cd_pre dC dI cI cQ cZ W0 H.size)) (va_Qv (fun _ => True) (cd_post dC dI W0 W1 H.size) (va_A W0 H.size)) mc ms (va_A W0 H.size)) (cw : va_CN R s args own index y host bytes maxL ret ws rm mc ms n ∧ (Cond.static y).before args s = true ∧ True) (hK : kE dC dI cI cQ cZ s) (hP : va_P (dC, dI) vwCl W0 H) (hD : va_D A0 W0) (hF : ∀ q, va_A W0 H.size q → A0 q) (hS : va_S A0 s.heap H locs) (hn : As.length = n) (hsz : ls.size = nL) (hst : st0 = As.reverse ++ rest) (hW : (rest.map fun v => v.category).sum ≤ 8) (hdg : decode cc pc = .ok (.invokestatic index, 3)) (hf : cells + mc ≤ R.cells ∧ slots + ms ≤ R.slots)
    (kk : ∀ (H1 : Heap) (locs1 : List Loc), va_P (dC, dI) vwCl W1 H1 → va_D (va_A W0 H.size) W1 → (∀ q : Nat, q < H.size → ¬ va_A W0 H.size q → H1[q]? = H[q]?) → va_S A0 s.heap H1 locs1 → W p l e R s m args below meth c H1 locs1 (cells + mc) (slots + ms) Q (F0 m (pc + 3) ls rest)) : W p l e R s m args below meth c H locs cells slots Q (F0 m pc ls st0) :=
  va_callv (va_runSN S hM cw (cd_pSM hK hP hD) rfl hn hsz hst (lv_room hW) hdg hf) hS (fun q _ h => hF q h) hF (fun u t H1 locs1 ht hvm hr hB hz hk hS1 => by subst ht; exact kk _ locs1 hB.1 hB.2 hk hS1)
end CDR
/-- cells that stand at the same addresses stay apart -/
theorem cd_DA {A B : Nat → Prop} {W1 : va_W} (h : va_D A W1) (hF : ∀ q, A q → B q) : va_D B W1 := h.weaken (fun _ _ _ h => hF _ h)
end
section
/-! WORLDS: the cells of the class and of the reference, as lists by their components -/
abbrev DT : Type := Int32 × Int32 × Int32 × Int32 × Int32 × Int32 × Int32
def dvl (d : DT) : List Value := [.int d.1, .int d.2.1, .int d.2.2.1, .int d.2.2.2.1, .int d.2.2.2.2.1, .int d.2.2.2.2.2.1, .int d.2.2.2.2.2.2]
abbrev dpl (L : List Nat) (pd : Nat → DT) : va_W := va_pl L (fun a => .inr (3, dvl (pd a)))
abbrev wAr (cI : ClassId) (a : Nat) (n : Nat) (f : Nat → Int32) : va_W := [(a, .inl (cI, n, .inl f))]
abbrev wDu (a : Nat) (d : DT) : va_W := [(a, .inr (3, dvl d))]
abbrev wCl (cI : ClassId) (a0 : Nat) (a1 : Nat) (a2 : Nat) (sh : Nat → Int32) (wa : Nat → Int32) (pl : Int32) (rm : Int32) (lk : Int32) (br : Int32) : va_W := [(a0, .inr (1, [.ref a1, .ref a2, .int pl, .int rm, .int lk, .int br])), (a1, .inl (cI, 3, .inl sh)), (a2, .inl (cI, 12, .inl wa))]
abbrev wDs (cQ : ClassId) (b0 : Nat) (b1 : Nat) (row : Nat → Option Nat) (dn : Nat) : va_W := [(b0, .inr (2, [.ref b1, .int (nI dn)])), (b1, .inl (cQ, 8, .inr (.inr (.inr (.inr row)))))]
abbrev wSg (cI : ClassId) (g0 : Nat) (g1 : Nat) (g2 : Nat) (g3 : Nat) (dy : Nat → Int32) (lv : Nat → Int32) (od : Nat → Int32) (sn : Nat) : va_W := [(g0, .inr (4, [.ref g1, .ref g2, .ref g3, .int (nI sn)])), (g1, .inl (cI, 12, .inl dy)), (g2, .inl (cI, 12, .inl lv)), (g3, .inl (cI, 12, .inl od))]
abbrev wKx (cI : ClassId) (cQ : ClassId) (ad : Nat → Nat) (ag : Nat → Int32) (lo : Nat → Int32) (ch : Nat → Int32) (al : Nat → Int32) (an : Nat) (sh : Nat → Int32) (wa : Nat → Int32) (pl : Int32) (rm : Int32) (lk : Int32) (br : Int32) (row : Nat → Option Nat) (dn : Nat) (dy : Nat → Int32) (lv : Nat → Int32) (od : Nat → Int32) (sn : Nat) : va_W := [(ad 1, .inr (0, [.ref (ad 6), .ref (ad 9), .ref (ad 11), .ref (ad 2), .ref (ad 3), .ref (ad 4), .ref (ad 5), .int (nI an)])), (ad 2, .inl (cI, 150, .inl ag)), (ad 3, .inl (cI, 150, .inl lo)), (ad 4, .inl (cI, 150, .inl ch)), (ad 5, .inl (cI, 10, .inl al)), (ad 6, .inr (1, [.ref (ad 7), .ref (ad 8), .int pl, .int rm, .int lk, .int br])), (ad 7, .inl (cI, 3, .inl sh)), (ad 8, .inl (cI, 12, .inl wa)), (ad 9, .inr (2, [.ref (ad 10), .int (nI dn)])), (ad 10, .inl (cQ, 8, .inr (.inr (.inr (.inr row))))), (ad 11, .inr (4, [.ref (ad 12), .ref (ad 13), .ref (ad 14), .int (nI sn)])), (ad 12, .inl (cI, 12, .inl dy)), (ad 13, .inl (cI, 12, .inl lv)), (ad 14, .inl (cI, 12, .inl od))]
abbrev wCx (cI : ClassId) (cQ : ClassId) (ad : Nat → Nat) (tq : Int64) (ag : Nat → Int32) (lo : Nat → Int32) (ch : Nat → Int32) (al : Nat → Int32) (an : Nat) (sh : Nat → Int32) (wa : Nat → Int32) (pl : Int32) (rm : Int32) (lk : Int32) (br : Int32) (row : Nat → Option Nat) (dn : Nat) (dy : Nat → Int32) (lv : Nat → Int32) (od : Nat → Int32) (sn : Nat) : va_W := [(ad 0, .inr (5, [.ref (ad 6), .ref (ad 9), .ref (ad 11), .ref (ad 1), .long tq])), (ad 1, .inr (0, [.ref (ad 6), .ref (ad 9), .ref (ad 11), .ref (ad 2), .ref (ad 3), .ref (ad 4), .ref (ad 5), .int (nI an)])), (ad 2, .inl (cI, 150, .inl ag)), (ad 3, .inl (cI, 150, .inl lo)), (ad 4, .inl (cI, 150, .inl ch)), (ad 5, .inl (cI, 10, .inl al)), (ad 6, .inr (1, [.ref (ad 7), .ref (ad 8), .int pl, .int rm, .int lk, .int br])), (ad 7, .inl (cI, 3, .inl sh)), (ad 8, .inl (cI, 12, .inl wa)), (ad 9, .inr (2, [.ref (ad 10), .int (nI dn)])), (ad 10, .inl (cQ, 8, .inr (.inr (.inr (.inr row))))), (ad 11, .inr (4, [.ref (ad 12), .ref (ad 13), .ref (ad 14), .int (nI sn)])), (ad 12, .inl (cI, 12, .inl dy)), (ad 13, .inl (cI, 12, .inl lv)), (ad 14, .inl (cI, 12, .inl od))]
abbrev wMd (cI : ClassId) (cZ : ClassId) (ad : Nat → Nat) (th : Int32) (tr : Int64) (ru : Nat → Int32) (sh : Nat → Int32) (sn : Int32) (se : Nat → Int32) (dn : Nat) (kd : Nat → Int32) (ld : Nat → Int32) (tm : Nat → Int32) (pk : Nat → Int32) (ts : Nat → Int32) (wo : Nat → Int32) (io : Nat → Int32) (sg : Nat) (sd : Nat → Int32) (sl : Nat → Int32) (lv : Nat → Int32) (mt : Nat → Int32) : va_W := [(ad 0, .inr (6, [.int th, .long tr, .ref (ad 1), .ref (ad 2), .int sn, .ref (ad 3), .int (nI dn), .ref (ad 4), .ref (ad 5), .ref (ad 6), .ref (ad 7), .ref (ad 8), .ref (ad 9), .ref (ad 10), .int (nI sg), .ref (ad 11), .ref (ad 12), .ref (ad 13), .ref (ad 14)])), (ad 1, .inl (cI, 3, .inl ru)), (ad 2, .inl (cI, 3, .inl sh)), (ad 3, .inl (cI, 12, .inl se)), (ad 4, .inl (cI, 8, .inl kd)), (ad 5, .inl (cI, 8, .inl ld)), (ad 6, .inl (cI, 8, .inl tm)), (ad 7, .inl (cI, 8, .inl pk)), (ad 8, .inl (cI, 8, .inl ts)), (ad 9, .inl (cI, 8, .inl wo)), (ad 10, .inl (cZ, 8, .inl io)), (ad 11, .inl (cI, 12, .inl sd)), (ad 12, .inl (cI, 12, .inl sl)), (ad 13, .inl (cI, 400, .inl lv)), (ad 14, .inl (cI, 4000, .inl mt))]
theorem cd_P0 {D : va_G} {cl : List vw_C} {H : Heap} : va_P D cl [] H := fun k q h => by simp at h
theorem cd_D0 {A : Nat → Prop} : va_D A [] := ⟨fun i j p q h => by simp at h, fun k q h => by simp at h⟩
theorem cd_one {D : va_G} {cl : List vw_C} {X : va_W} {L : List Nat} {pd : Nat → DT} {H : Heap} {y : Nat} (hP : va_P D cl (X ++ dpl L pd) H) (hy : y ∈ L) : va_P D cl (wDu y (pd y)) H := by
  obtain ⟨k, hk⟩ := va_pl_get (X := X) (f := fun a => .inr (3, dvl (pd a))) hy
  intro j q hj
  have h1 : j < 1 := (List.getElem?_eq_some_iff.mp hj).1
  have h2 : j = 0 := by omega
  subst h2
  cases hj
  exact hP k _ hk
theorem cd_F {A : Nat → Prop} {W0 : va_W} {H0 H : Heap} {locs : List Loc} (hD : va_D A W0) (hS : va_S A H0 H locs) (hA : ∀ q, H0.size ≤ q → A q) : ∀ q, va_A W0 H.size q → A q := by
  intro q h
  rcases h with ⟨k, e, h⟩ | h
  · exact hD.2 k (q, e) h
  · exact hA q (Nat.le_trans hS.1 h)
theorem cd_ne0 {x : Int32} (h : 0 < x) : ¬ x = 0 := by
  intro e
  subst e
  exact absurd h (by decide)
theorem cd_nle0 {x : Int32} (h : ¬ x ≤ 0) : ¬ x = 0 := by
  intro e
  subst e
  exact h (by decide)
theorem cd_in {i : Int32} {n : Nat} (hn : n < 2 ^ 31) (h0 : ¬ i < 0) (h1 : ¬ nI n ≤ i) : vp_in i n := by
  obtain ⟨j, hj, rfl⟩ := nI_of h0
  have : j < n := by
    rcases Nat.lt_or_ge j n with h | h
    · exact h
    · exact absurd (nI_le h hj) h1
  exact vp_in_nI this hn
theorem cd_in' {i : Int32} {n : Nat} (hn : n < 2 ^ 31) (h0 : 0 ≤ i) (h1 : i < nI n) : vp_in i n := cd_in hn (by
  intro h
  have a := Int32.le_iff_toInt_le.mp h0
  have b := Int32.lt_iff_toInt_lt.mp h
  omega) (by
  intro h
  have a := Int32.le_iff_toInt_le.mp h
  have b := Int32.lt_iff_toInt_lt.mp h1
  omega)
theorem cd_m1 {k : Nat} (h : 0 < k) : nI k + Int32.ofInt (-1) = nI (k - 1) := by
  obtain ⟨j, rfl⟩ : ∃ j, k = j + 1 := ⟨k - 1, by omega⟩
  rw [Nat.add_sub_cancel]
  exact pk_m1 j
theorem cd_s1 {k : Nat} (h : 0 < k) : nI k - 1 = nI (k - 1) := by
  obtain ⟨j, rfl⟩ : ∃ j, k = j + 1 := ⟨k - 1, by omega⟩
  rw [Nat.add_sub_cancel]
  exact nI_pred j
end
section
def rX5_within : Room := { frames := 0, cells := 0, slots := 0, locals := 0 }
def sX5_within (v : Int32) (lo : Int32) (hi : Int32) : Int32 := (if v < lo then 0 else (if hi < v then 0 else 1))
set_option maxHeartbeats 4000000 in
set_option maxRecDepth 100000 in
theorem kX5_within (l : Launch) (dC : Nat → ClassId) (dI : Nat → Nat → Nat) (cI cQ cZ : ClassId) (v : Int32) (lo : Int32) (hi : Int32) : Met l yX5_within wsX5_within rX5_within (va_Pc [.int v, .int lo, .int hi] (cd_rp dC dI cI cQ cZ [])) (vp_Si (fun r => r = sX5_within v lo hi)) 0 0 (fun _ => False) := by
  generalize hex : sX5_within v lo hi = ex
  unfold sX5_within at hex
  refine cd_mRz [.int v, .int lo, .int hi] (by decide) rfl (Nat.le_of_ble_eq_true rfl) ?_
  intro Q p e s m args below meth c ls hx hb hml hown hts hret ⟨hK, hP⟩ hl
  have hl : lv_has ls 3 [(0, .int v), (1, .int lo), (2, .int hi)] := hl
  refine lv_iload_n hx hb dX5_within_0 rfl (lv_at hl 0 rfl) ?_
  refine lv_iload_n hx hb dX5_within_1 rfl (lv_at hl 1 rfl) ?_
  refine lv_icmp_lt (tgt := 14) hx hb dX5_within_2 (by decide) (fun c_1 => ?_) (fun c_1 => ?_)
  · rw [if_pos c_1] at hex
    refine lv_iconst (v := 0) hx hb dX5_within_14 (by decide) ?_
    subst hex
    exact hret _ _ rfl dX5_within_15
  · rw [if_neg c_1] at hex
    refine lv_iload_n hx hb dX5_within_5 rfl (lv_at hl 0 rfl) ?_
    refine lv_iload_n hx hb dX5_within_6 rfl (lv_at hl 2 rfl) ?_
    refine lv_icmp_gt (tgt := 14) hx hb dX5_within_7 (by decide) (fun c_2 => ?_) (fun c_2 => ?_)
    · rw [if_pos c_2] at hex
      refine lv_iconst (v := 0) hx hb dX5_within_14 (by decide) ?_
      subst hex
      exact hret _ _ rfl dX5_within_15
    · rw [if_neg c_2] at hex
      refine lv_iconst (v := 1) hx hb dX5_within_10 (by decide) ?_
      refine lv_goto (tgt := 15) hx hb dX5_within_11 (by decide) ?_
      subst hex
      exact hret _ _ rfl dX5_within_15

theorem nb_within (v lo hi : Int32) : narrow .boolean (.int (sX5_within v lo hi)) = .int (sX5_within v lo hi) := by
  unfold sX5_within
  split <;> (try split) <;> rfl

def rX5_isDay : Room := { frames := 1, cells := 0, slots := 0, locals := 22 }
def sX5_isDay (d : Int32) : Int32 := (sX5_within d 0 399)
set_option maxHeartbeats 4000000 in
set_option maxRecDepth 100000 in
theorem kX5_isDay (l : Launch) (dC : Nat → ClassId) (dI : Nat → Nat → Nat) (cI cQ cZ : ClassId) (d : Int32) : Met l yX5_isDay wsX5_isDay rX5_isDay (va_Pc [.int d] (cd_rp dC dI cI cQ cZ [])) (vp_Si (fun r => r = sX5_isDay d)) 0 0 (fun _ => False) := by
  generalize hex : sX5_isDay d = ex
  unfold sX5_isDay at hex
  refine cd_mRz [.int d] (by decide) rfl (Nat.le_of_ble_eq_true rfl) ?_
  intro Q p e s m args below meth c ls hx hb hml hown hts hret ⟨hK, hP⟩ hl
  have hl : lv_has ls 1 [(0, .int d)] := hl
  refine lv_iload_n hx hb dX5_isDay_0 rfl (lv_at hl 0 rfl) ?_
  refine lv_iconst (v := 0) hx hb dX5_isDay_1 (by decide) ?_
  refine lv_sipush (v := 399) hx hb dX5_isDay_2 (by decide) ?_
  refine cd_rS (As := [.int d, .int 0, .int 399]) (rest := []) ⟨hx, hb, hml, hown, hts⟩ (kX5_within l dC dI cI cQ cZ d 0 399) (va_cwS 3 hts gX5_isDay_X5_within rfl rfl rfl (by decide +kernel) ⟨by decide, by decide⟩) hK cd_P0 rfl hl.1 rfl (by decide) dX5_isDay_5 ⟨by decide, by decide⟩ ?_
  subst hex
  exact hret _ _ (nb_within _ _ _) dX5_isDay_8

def rX5_isTries : Room := { frames := 1, cells := 0, slots := 0, locals := 22 }
def sX5_isTries (t : Int32) : Int32 := (sX5_within t 1 5)
set_option maxHeartbeats 4000000 in
set_option maxRecDepth 100000 in
theorem kX5_isTries (l : Launch) (dC : Nat → ClassId) (dI : Nat → Nat → Nat) (cI cQ cZ : ClassId) (t : Int32) : Met l yX5_isTries wsX5_isTries rX5_isTries (va_Pc [.int t] (cd_rp dC dI cI cQ cZ [])) (vp_Si (fun r => r = sX5_isTries t)) 0 0 (fun _ => False) := by
  generalize hex : sX5_isTries t = ex
  unfold sX5_isTries at hex
  refine cd_mRz [.int t] (by decide) rfl (Nat.le_of_ble_eq_true rfl) ?_
  intro Q p e s m args below meth c ls hx hb hml hown hts hret ⟨hK, hP⟩ hl
  have hl : lv_has ls 1 [(0, .int t)] := hl
  refine lv_iload_n hx hb dX5_isTries_0 rfl (lv_at hl 0 rfl) ?_
  refine lv_iconst (v := 1) hx hb dX5_isTries_1 (by decide) ?_
  refine lv_iconst (v := 5) hx hb dX5_isTries_2 (by decide) ?_
  refine cd_rS (As := [.int t, .int 1, .int 5]) (rest := []) ⟨hx, hb, hml, hown, hts⟩ (kX5_within l dC dI cI cQ cZ t 1 5) (va_cwS 3 hts gX5_isTries_X5_within rfl rfl rfl (by decide +kernel) ⟨by decide, by decide⟩) hK cd_P0 rfl hl.1 rfl (by decide) dX5_isTries_3 ⟨by decide, by decide⟩ ?_
  subst hex
  exact hret _ _ (nb_within _ _ _) dX5_isTries_6

def rX5_powerOfThree : Room := { frames := 0, cells := 0, slots := 0, locals := 0 }
def sX5_powerOfThree_L4 (n0 : Int32) : Nat → Int32 → Nat → Int32
  | 0, pw, k => 0
  | n + 1, pw, k => (if n0 ≤ (nI k) then pw else (if 12 ≤ (nI k) then pw else sX5_powerOfThree_L4 n0 n (pw * 3) (k + 1)))
def sX5_powerOfThree (n0 : Int32) : Int32 := sX5_powerOfThree_L4 n0 13 1 0
set_option maxHeartbeats 4000000 in
set_option maxRecDepth 100000 in
theorem kX5_powerOfThree (l : Launch) (dC : Nat → ClassId) (dI : Nat → Nat → Nat) (cI cQ cZ : ClassId) (n0 : Int32) : Met l yX5_powerOfThree wsX5_powerOfThree rX5_powerOfThree (va_Pc [.int n0] (cd_rp dC dI cI cQ cZ [])) (vp_Si (fun r => r = sX5_powerOfThree n0)) 0 0 (fun _ => False) := by
  generalize hex : sX5_powerOfThree n0 = ex
  unfold sX5_powerOfThree at hex
  refine cd_mRi [.int n0] (by decide) rfl (Nat.le_of_ble_eq_true rfl) ?_
  intro Q p e s m args below meth c ls hx hb hml hown hts hret ⟨hK, hP⟩ hl
  have hl : lv_has ls 3 [(0, .int n0)] := hl
  refine lv_iconst (v := 1) hx hb dX5_powerOfThree_0 (by decide) ?_
  refine lv_istore_n (lv' := [(1, .int 1), (0, .int n0)]) hx hb dX5_powerOfThree_1 rfl hl (by decide) rfl (fun ls hl => ?_)
  refine lv_iconst (v := 0) hx hb dX5_powerOfThree_2 (by decide) ?_
  refine lv_istore_n (lv' := [(2, .int 0), (1, .int 1), (0, .int n0)]) hx hb dX5_powerOfThree_3 rfl hl (by decide) rfl (fun ls hl => ?_)
  have L4 : ∀ (n : Nat) (pw : Int32) (k : Nat), (k ≤ 12) → 12 - k < n → sX5_powerOfThree_L4 n0 n pw k = ex → ∀ (ls : Array Slot), lv_has ls 3 [(2, .int (nI k)), (1, .int pw), (0, .int n0)] → W p l e rX5_powerOfThree s m args below meth c s.heap [] 0 0 Q (F0 m 4 ls []) := by
    intro n
    induction n with
    | zero => intro pw k hk hm; exact absurd hm (Nat.not_lt_zero _)
    | succ n ih =>
      intro pw k hk hm hex ls hl
      rw [sX5_powerOfThree_L4] at hex
      refine lv_iload_n hx hb dX5_powerOfThree_4 rfl (lv_at hl 0 rfl) ?_
      refine lv_iload_n hx hb dX5_powerOfThree_5 rfl (lv_at hl 2 rfl) ?_
      refine lv_icmp_ge (tgt := 25) hx hb dX5_powerOfThree_6 (by decide) (fun c_1 => ?_) (fun c_1 => ?_)
      · rw [if_pos c_1] at hex
        refine lv_iload_n hx hb dX5_powerOfThree_25 rfl (lv_at hl 1 rfl) ?_
        subst hex
        exact hret _ _ dX5_powerOfThree_26
      · rw [if_neg c_1] at hex
        refine lv_iload_n hx hb dX5_powerOfThree_9 rfl (lv_at hl 0 rfl) ?_
        refine lv_bipush (v := 12) hx hb dX5_powerOfThree_10 (by decide) ?_
        refine lv_icmp_ge (tgt := 25) hx hb dX5_powerOfThree_12 (by decide) (fun c_2 => ?_) (fun c_2 => ?_)
        · rw [if_pos c_2] at hex
          try have n_2 : 12 ≤ k := (nI_leI (a := 12) (b := k) (by omega) (by omega)).mp c_2
          refine lv_iload_n hx hb dX5_powerOfThree_25 rfl (lv_at hl 1 rfl) ?_
          subst hex
          exact hret _ _ dX5_powerOfThree_26
        · rw [if_neg c_2] at hex
          try have n_2 : ¬ 12 ≤ k := fun h9 => c_2 ((nI_leI (a := 12) (b := k) (by omega) (by omega)).mpr h9)
          refine lv_iload_n hx hb dX5_powerOfThree_15 rfl (lv_at hl 1 rfl) ?_
          refine lv_iconst (v := 3) hx hb dX5_powerOfThree_16 (by decide) ?_
          refine lv_imul hx hb dX5_powerOfThree_17 ?_
          refine lv_istore_n (lv' := [(1, .int (pw * 3)), (2, .int (nI k)), (0, .int n0)]) hx hb dX5_powerOfThree_18 rfl hl (by decide) rfl (fun ls hl => ?_)
          refine lv_iinc (v := nI (k + 1)) (lv' := [(2, .int (nI (k + 1))), (1, .int (pw * 3)), (0, .int n0)]) hx hb dX5_powerOfThree_19 hl (k := 1) rfl (nI_1 k) (by decide) rfl (fun ls hl => ?_)
          refine lv_goto (tgt := 4) hx hb dX5_powerOfThree_22 (by decide) ?_
          exact ih (pw * 3) (k + 1) (by omega) (by omega) hex _ (lv_sub hl [0, 1, 2] rfl)
  exact L4 13 1 0 (by decide) (by decide) hex _ (lv_sub hl [0, 1, 2] rfl)

def rX5_at : Room := { frames := 0, cells := 0, slots := 0, locals := 0 }
def sX5_at (n : Nat) (f : Nat → Int32) (i : Int32) : Int32 := (if i < 0 then 0 else (if (nI n) ≤ i then 0 else (f i.toNatClampNeg)))
set_option maxHeartbeats 4000000 in
set_option maxRecDepth 100000 in
theorem kX5_at (l : Launch) (dC : Nat → ClassId) (dI : Nat → Nat → Nat) (cI cQ cZ : ClassId) (a : Nat) (n : Nat) (f : Nat → Int32) (i : Int32) (hn : n < 2 ^ 31) : Met l yX5_at wsX5_at rX5_at (va_Pc [.ref a, .int i] (cd_rp dC dI cI cQ cZ (wAr cI a n f))) (vp_Si (fun r => r = sX5_at n f i)) 0 0 (fun _ => False) := by
  generalize hex : sX5_at n f i = ex
  unfold sX5_at at hex
  refine cd_mRi [.ref a, .int i] (by decide) rfl (Nat.le_of_ble_eq_true rfl) ?_
  intro Q p e s m args below meth c ls hx hb hml hown hts hret ⟨hK, hP⟩ hl
  have hl : lv_has ls 2 [(0, .ref a), (1, .int i)] := hl
  refine lv_iload_n hx hb dX5_at_0 rfl (lv_at hl 1 rfl) ?_
  refine lv_if_lt (tgt := 16) hx hb dX5_at_1 (by decide) (fun c_1 => ?_) (fun c_1 => ?_)
  · rw [if_pos c_1] at hex
    refine lv_iconst (v := 0) hx hb dX5_at_16 (by decide) ?_
    subst hex
    exact hret _ _ dX5_at_17
  · rw [if_neg c_1] at hex
    refine lv_iload_n hx hb dX5_at_4 rfl (lv_at hl 1 rfl) ?_
    refine lv_aload_n hx hb dX5_at_5 rfl (lv_at hl 0 rfl) ?_
    refine va_alen (v := nI n) hx hb hK.1 hP 0 0 rfl rfl rfl dX5_at_6 ?_
    refine lv_icmp_ge (tgt := 16) hx hb dX5_at_7 (by decide) (fun c_2 => ?_) (fun c_2 => ?_)
    · rw [if_pos c_2] at hex
      refine lv_iconst (v := 0) hx hb dX5_at_16 (by decide) ?_
      subst hex
      exact hret _ _ dX5_at_17
    · rw [if_neg c_2] at hex
      refine lv_aload_n hx hb dX5_at_10 rfl (lv_at hl 0 rfl) ?_
      refine lv_iload_n hx hb dX5_at_11 rfl (lv_at hl 1 rfl) ?_
      refine va_iald hx hb hK.1 hP 0 0 rfl rfl ((cd_in hn c_1 c_2)) dX5_at_12 ?_
      refine lv_goto (tgt := 17) hx hb dX5_at_13 (by decide) ?_
      subst hex
      exact hret _ _ dX5_at_17

def rX5_put : Room := { frames := 0, cells := 0, slots := 0, locals := 0 }
def sX5_put (n : Nat) (f : Nat → Int32) (i : Int32) (x : Int32) : (Nat → Int32) := (if i < 0 then f else (if (nI n) ≤ i then f else (upd f i.toNatClampNeg x)))
set_option maxHeartbeats 4000000 in
set_option maxRecDepth 100000 in
theorem kX5_put (l : Launch) (dC : Nat → ClassId) (dI : Nat → Nat → Nat) (cI cQ cZ : ClassId) (a : Nat) (n : Nat) (f : Nat → Int32) (i : Int32) (x : Int32) (sz : Nat) (hn : n < 2 ^ 31) : Met l yX5_put wsX5_put rX5_put (va_Pc [.ref a, .int i, .int x] (cd_pre dC dI cI cQ cZ (wAr cI a n f) sz)) (va_Qv (fun _ => True) (cd_post dC dI (wAr cI a n f) (wAr cI a n (sX5_put n f i x)) sz) (va_A (wAr cI a n f) sz)) 0 0 (va_A (wAr cI a n f) sz) := by
  generalize hex : sX5_put n f i x = ex
  unfold sX5_put at hex
  refine cd_mMv [.ref a, .int i, .int x] (by decide) rfl (Nat.le_of_ble_eq_true rfl) ?_
  intro Q A p e s m args below meth c ls hx hb hml hown hts hA hinit hret hK hP hD hS hl
  have hl : lv_has ls 3 [(0, .ref a), (1, .int i), (2, .int x)] := hl
  refine lv_iload_n hx hb dX5_put_0 rfl (lv_at hl 1 rfl) ?_
  refine lv_if_lt (tgt := 14) hx hb dX5_put_1 (by decide) (fun c_1 => ?_) (fun c_1 => ?_)
  · rw [if_pos c_1] at hex
    subst hex
    exact hret _ _ _ _ dX5_put_14 hP hD hS
  · rw [if_neg c_1] at hex
    refine lv_iload_n hx hb dX5_put_4 rfl (lv_at hl 1 rfl) ?_
    refine lv_aload_n hx hb dX5_put_5 rfl (lv_at hl 0 rfl) ?_
    refine va_alen (v := nI n) hx hb hK.1 hP 0 0 rfl rfl rfl dX5_put_6 ?_
    refine lv_icmp_ge (tgt := 14) hx hb dX5_put_7 (by decide) (fun c_2 => ?_) (fun c_2 => ?_)
    · rw [if_pos c_2] at hex
      subst hex
      exact hret _ _ _ _ dX5_put_14 hP hD hS
    · rw [if_neg c_2] at hex
      refine lv_aload_n hx hb dX5_put_10 rfl (lv_at hl 0 rfl) ?_
      refine lv_iload_n hx hb dX5_put_11 rfl (lv_at hl 1 rfl) ?_
      refine lv_iload_n hx hb dX5_put_12 rfl (lv_at hl 2 rfl) ?_
      refine va_iast hx hb hK.1 hP hD hS 0 0 rfl rfl ((cd_in hn c_1 c_2)) dX5_put_13 (fun H locs hP hD hS => ?_)
      have hP : va_P (dC, dI) vwCl (wAr cI a n (upd f i.toNatClampNeg x)) H := hP
      have hD : va_D A (wAr cI a n (upd f i.toNatClampNeg x)) := hD
      subst hex
      exact hret _ _ _ _ dX5_put_14 hP hD hS
end
section
theorem cd_nle {a b : Int32} (h : ¬ a ≤ b) : b.toInt < a.toInt := by
  rcases Int.lt_or_le b.toInt a.toInt with q | q
  · exact q
  · exact absurd (Int32.le_iff_toInt_le.mpr q) h
theorem cd_nlt {a b : Int32} (h : ¬ a < b) : b.toInt ≤ a.toInt := by
  rcases Int.lt_or_le a.toInt b.toInt with q | q
  · exact absurd (Int32.lt_iff_toInt_lt.mpr q) h
  · exact q
theorem cd_lt {a b : Int32} (h : a < b) : a.toInt < b.toInt := Int32.lt_iff_toInt_lt.mp h
theorem cd_le {a b : Int32} (h : a ≤ b) : a.toInt ≤ b.toInt := Int32.le_iff_toInt_le.mp h
theorem cd_inc {k : Int32} (h0 : 0 ≤ k.toInt) (h1 : k.toInt < 1000000) : (k + 1).toInt = k.toInt + 1 := by
  obtain ⟨j, hj, rfl⟩ := nI_of (x := k) (fun q => by have := cd_lt q; rw [show (0 : Int32).toInt = 0 from rfl] at this; omega)
  rw [nI_toInt hj] at h1 ⊢
  rw [nI_1, nI_toInt (by omega)]
  omega

def rX1_changeRoom : Room := { frames := 0, cells := 0, slots := 0, locals := 0 }
def sX1_changeRoom (rm : Int32) (v : Int32) : Int32 × (Int32) := (rm, v)
set_option maxHeartbeats 4000000 in
set_option maxRecDepth 100000 in
theorem kX1_changeRoom (l : Launch) (dC : Nat → ClassId) (dI : Nat → Nat → Nat) (cI cQ cZ : ClassId) (a0 : Nat) (a1 : Nat) (a2 : Nat) (sh : Nat → Int32) (wa : Nat → Int32) (pl : Int32) (rm : Int32) (lk : Int32) (br : Int32) (v : Int32) (sz : Nat) : Met l yX1_changeRoom wsX1_changeRoom rX1_changeRoom (va_Pc [.ref a0, .int v] (cd_pre dC dI cI cQ cZ (wCl cI a0 a1 a2 sh wa pl rm lk br) sz)) (va_Qi (fun r _ => r = (sX1_changeRoom rm v).1) (cd_post dC dI (wCl cI a0 a1 a2 sh wa pl rm lk br) (wCl cI a0 a1 a2 sh wa pl ((sX1_changeRoom rm v).2) lk br) sz) (va_A (wCl cI a0 a1 a2 sh wa pl rm lk br) sz)) 0 0 (va_A (wCl cI a0 a1 a2 sh wa pl rm lk br) sz) := by
  have hiX1 : ∀ w ∈ u_ws RX1 TX1 6, w ∈ wsX1_changeRoom := by decide +kernel
  generalize hex : sX1_changeRoom rm v = ex
  unfold sX1_changeRoom at hex
  refine cd_mMi [.ref a0, .int v] (by decide) rfl (Nat.le_of_ble_eq_true rfl) ?_
  intro Q A p e s m args below meth c ls hx hb hml hown hts hA hret hK hP hD hS hl
  have hl : lv_has ls 3 [(0, .ref a0), (1, .int v)] := hl
  refine lv_aload_n hx hb dX1_changeRoom_0 rfl (lv_at hl 0 rfl) ?_
  refine va_get (D := (dC, dI)) (ci := 1) (v := .int rm) (C := RX1) (T := TX1) (N := 6) hx hb hts hiX1 hown hK.1 hP 0 rfl rfl 3 (by decide) (hts (.fieldLink RX1 22 "CellDays$Cell" "room" "I") (by decide +kernel)) (fun _ h9 => h9) rfl dX1_changeRoom_1 ?_
  refine lv_istore_n (lv' := [(2, .int rm), (0, .ref a0), (1, .int v)]) hx hb dX1_changeRoom_4 rfl hl (by decide) rfl (fun ls hl => ?_)
  refine lv_aload_n hx hb dX1_changeRoom_5 rfl (lv_at hl 1 rfl) ?_
  refine lv_iload_n hx hb dX1_changeRoom_6 rfl (lv_at hl 2 rfl) ?_
  refine va_put (D := (dC, dI)) (ci := 1) (v := .int v) (ty := .int) (C := RX1) (T := TX1) (N := 6) hx hb hts hiX1 tyX1 tyX1_ok nmX1 hown hK.1 hP hD hS 0 rfl rfl 3 (by decide) (hts (.fieldLink RX1 22 "CellDays$Cell" "room" "I") (by decide +kernel)) (fun _ h9 => h9) rfl (by decide +kernel) (rfl) (rfl) (Nat.le_of_ble_eq_true rfl) dX1_changeRoom_7 (fun H locs hP hD hS => ?_)
  have hP : va_P (dC, dI) vwCl (wCl cI a0 a1 a2 sh wa pl v lk br) H := hP
  have hD : va_D A (wCl cI a0 a1 a2 sh wa pl v lk br) := hD
  refine lv_iload_n hx hb dX1_changeRoom_10 rfl (lv_at hl 0 rfl) ?_
  subst hex
  exact hret _ _ _ _ dX1_changeRoom_11 hP hD hS

def rX1_changeLeak : Room := { frames := 0, cells := 0, slots := 0, locals := 0 }
def sX1_changeLeak (lk : Int32) (v : Int32) : Int32 × (Int32) := (lk, v)
set_option maxHeartbeats 4000000 in
set_option maxRecDepth 100000 in
theorem kX1_changeLeak (l : Launch) (dC : Nat → ClassId) (dI : Nat → Nat → Nat) (cI cQ cZ : ClassId) (a0 : Nat) (a1 : Nat) (a2 : Nat) (sh : Nat → Int32) (wa : Nat → Int32) (pl : Int32) (rm : Int32) (lk : Int32) (br : Int32) (v : Int32) (sz : Nat) : Met l yX1_changeLeak wsX1_changeLeak rX1_changeLeak (va_Pc [.ref a0, .int v] (cd_pre dC dI cI cQ cZ (wCl cI a0 a1 a2 sh wa pl rm lk br) sz)) (va_Qi (fun r _ => r = (sX1_changeLeak lk v).1) (cd_post dC dI (wCl cI a0 a1 a2 sh wa pl rm lk br) (wCl cI a0 a1 a2 sh wa pl rm ((sX1_changeLeak lk v).2) br) sz) (va_A (wCl cI a0 a1 a2 sh wa pl rm lk br) sz)) 0 0 (va_A (wCl cI a0 a1 a2 sh wa pl rm lk br) sz) := by
  have hiX1 : ∀ w ∈ u_ws RX1 TX1 6, w ∈ wsX1_changeLeak := by decide +kernel
  generalize hex : sX1_changeLeak lk v = ex
  unfold sX1_changeLeak at hex
  refine cd_mMi [.ref a0, .int v] (by decide) rfl (Nat.le_of_ble_eq_true rfl) ?_
  intro Q A p e s m args below meth c ls hx hb hml hown hts hA hret hK hP hD hS hl
  have hl : lv_has ls 3 [(0, .ref a0), (1, .int v)] := hl
  refine lv_aload_n hx hb dX1_changeLeak_0 rfl (lv_at hl 0 rfl) ?_
  refine va_get (D := (dC, dI)) (ci := 1) (v := .int lk) (C := RX1) (T := TX1) (N := 6) hx hb hts hiX1 hown hK.1 hP 0 rfl rfl 4 (by decide) (hts (.fieldLink RX1 25 "CellDays$Cell" "leak" "I") (by decide +kernel)) (fun _ h9 => h9) rfl dX1_changeLeak_1 ?_
  refine lv_istore_n (lv' := [(2, .int lk), (0, .ref a0), (1, .int v)]) hx hb dX1_changeLeak_4 rfl hl (by decide) rfl (fun ls hl => ?_)
  refine lv_aload_n hx hb dX1_changeLeak_5 rfl (lv_at hl 1 rfl) ?_
  refine lv_iload_n hx hb dX1_changeLeak_6 rfl (lv_at hl 2 rfl) ?_
  refine va_put (D := (dC, dI)) (ci := 1) (v := .int v) (ty := .int) (C := RX1) (T := TX1) (N := 6) hx hb hts hiX1 tyX1 tyX1_ok nmX1 hown hK.1 hP hD hS 0 rfl rfl 4 (by decide) (hts (.fieldLink RX1 25 "CellDays$Cell" "leak" "I") (by decide +kernel)) (fun _ h9 => h9) rfl (by decide +kernel) (rfl) (rfl) (Nat.le_of_ble_eq_true rfl) dX1_changeLeak_7 (fun H locs hP hD hS => ?_)
  have hP : va_P (dC, dI) vwCl (wCl cI a0 a1 a2 sh wa pl rm v br) H := hP
  have hD : va_D A (wCl cI a0 a1 a2 sh wa pl rm v br) := hD
  refine lv_iload_n hx hb dX1_changeLeak_10 rfl (lv_at hl 0 rfl) ?_
  subst hex
  exact hret _ _ _ _ dX1_changeLeak_11 hP hD hS

def rX1_changeBar : Room := { frames := 0, cells := 0, slots := 0, locals := 0 }
def sX1_changeBar (br : Int32) (v : Int32) : Int32 × (Int32) := (br, v)
set_option maxHeartbeats 4000000 in
set_option maxRecDepth 100000 in
theorem kX1_changeBar (l : Launch) (dC : Nat → ClassId) (dI : Nat → Nat → Nat) (cI cQ cZ : ClassId) (a0 : Nat) (a1 : Nat) (a2 : Nat) (sh : Nat → Int32) (wa : Nat → Int32) (pl : Int32) (rm : Int32) (lk : Int32) (br : Int32) (v : Int32) (sz : Nat) : Met l yX1_changeBar wsX1_changeBar rX1_changeBar (va_Pc [.ref a0, .int v] (cd_pre dC dI cI cQ cZ (wCl cI a0 a1 a2 sh wa pl rm lk br) sz)) (va_Qi (fun r _ => r = (sX1_changeBar br v).1) (cd_post dC dI (wCl cI a0 a1 a2 sh wa pl rm lk br) (wCl cI a0 a1 a2 sh wa pl rm lk ((sX1_changeBar br v).2)) sz) (va_A (wCl cI a0 a1 a2 sh wa pl rm lk br) sz)) 0 0 (va_A (wCl cI a0 a1 a2 sh wa pl rm lk br) sz) := by
  have hiX1 : ∀ w ∈ u_ws RX1 TX1 6, w ∈ wsX1_changeBar := by decide +kernel
  generalize hex : sX1_changeBar br v = ex
  unfold sX1_changeBar at hex
  refine cd_mMi [.ref a0, .int v] (by decide) rfl (Nat.le_of_ble_eq_true rfl) ?_
  intro Q A p e s m args below meth c ls hx hb hml hown hts hA hret hK hP hD hS hl
  have hl : lv_has ls 3 [(0, .ref a0), (1, .int v)] := hl
  refine lv_aload_n hx hb dX1_changeBar_0 rfl (lv_at hl 0 rfl) ?_
  refine va_get (D := (dC, dI)) (ci := 1) (v := .int br) (C := RX1) (T := TX1) (N := 6) hx hb hts hiX1 hown hK.1 hP 0 rfl rfl 5 (by decide) (hts (.fieldLink RX1 28 "CellDays$Cell" "bar" "I") (by decide +kernel)) (fun _ h9 => h9) rfl dX1_changeBar_1 ?_
  refine lv_istore_n (lv' := [(2, .int br), (0, .ref a0), (1, .int v)]) hx hb dX1_changeBar_4 rfl hl (by decide) rfl (fun ls hl => ?_)
  refine lv_aload_n hx hb dX1_changeBar_5 rfl (lv_at hl 1 rfl) ?_
  refine lv_iload_n hx hb dX1_changeBar_6 rfl (lv_at hl 2 rfl) ?_
  refine va_put (D := (dC, dI)) (ci := 1) (v := .int v) (ty := .int) (C := RX1) (T := TX1) (N := 6) hx hb hts hiX1 tyX1 tyX1_ok nmX1 hown hK.1 hP hD hS 0 rfl rfl 5 (by decide) (hts (.fieldLink RX1 28 "CellDays$Cell" "bar" "I") (by decide +kernel)) (fun _ h9 => h9) rfl (by decide +kernel) (rfl) (rfl) (Nat.le_of_ble_eq_true rfl) dX1_changeBar_7 (fun H locs hP hD hS => ?_)
  have hP : va_P (dC, dI) vwCl (wCl cI a0 a1 a2 sh wa pl rm lk v) H := hP
  have hD : va_D A (wCl cI a0 a1 a2 sh wa pl rm lk v) := hD
  refine lv_iload_n hx hb dX1_changeBar_10 rfl (lv_at hl 0 rfl) ?_
  subst hex
  exact hret _ _ _ _ dX1_changeBar_11 hP hD hS

def rX1_changeShares : Room := { frames := 1, cells := 0, slots := 0, locals := 22 }
def sX1_changeShares (sh : Nat → Int32) (v1 : Int32) (v2 : Int32) (v3 : Int32) : (Nat → Int32) := (sX5_put 3 (sX5_put 3 (sX5_put 3 sh 0 v1) 1 v2) 2 v3)
set_option maxHeartbeats 4000000 in
set_option maxRecDepth 100000 in
theorem kX1_changeShares (l : Launch) (dC : Nat → ClassId) (dI : Nat → Nat → Nat) (cI cQ cZ : ClassId) (a0 : Nat) (a1 : Nat) (a2 : Nat) (sh : Nat → Int32) (wa : Nat → Int32) (pl : Int32) (rm : Int32) (lk : Int32) (br : Int32) (v1 : Int32) (v2 : Int32) (v3 : Int32) (sz : Nat) : Met l yX1_changeShares wsX1_changeShares rX1_changeShares (va_Pc [.ref a0, .int v1, .int v2, .int v3] (cd_pre dC dI cI cQ cZ (wCl cI a0 a1 a2 sh wa pl rm lk br) sz)) (va_Qv (fun _ => True) (cd_post dC dI (wCl cI a0 a1 a2 sh wa pl rm lk br) (wCl cI a0 a1 a2 (sX1_changeShares sh v1 v2 v3) wa pl rm lk br) sz) (va_A (wCl cI a0 a1 a2 sh wa pl rm lk br) sz)) 0 0 (va_A (wCl cI a0 a1 a2 sh wa pl rm lk br) sz) := by
  have hiX1 : ∀ w ∈ u_ws RX1 TX1 6, w ∈ wsX1_changeShares := by decide +kernel
  generalize hex : sX1_changeShares sh v1 v2 v3 = ex
  unfold sX1_changeShares at hex
  refine cd_mMv [.ref a0, .int v1, .int v2, .int v3] (by decide) rfl (Nat.le_of_ble_eq_true rfl) ?_
  intro Q A p e s m args below meth c ls hx hb hml hown hts hA hinit hret hK hP hD hS hl
  have hl : lv_has ls 4 [(0, .ref a0), (1, .int v1), (2, .int v2), (3, .int v3)] := hl
  refine lv_aload_n hx hb dX1_changeShares_0 rfl (lv_at hl 0 rfl) ?_
  refine va_get (D := (dC, dI)) (ci := 1) (v := .ref a1) (C := RX1) (T := TX1) (N := 6) hx hb hts hiX1 hown hK.1 hP 0 rfl rfl 0 (by decide) (hts (.fieldLink RX1 9 "CellDays$Cell" "sharesByWarmth" "[I") (by decide +kernel)) (fun _ h9 => h9) rfl dX1_changeShares_1 ?_
  refine lv_iconst (v := 0) hx hb dX1_changeShares_4 (by decide) ?_
  refine lv_iload_n hx hb dX1_changeShares_5 rfl (lv_at hl 1 rfl) ?_
  have hDc : va_D A (wAr cI a1 3 sh) := (hD.sub (ws' := (wAr cI a1 3 sh)) [1] (by decide) rfl)
  have hFc := cd_F hDc hS hA
  refine cd_wSv (As := [.ref a1, .int 0, .int v1]) (rest := []) ⟨hx, hb, hml, hown, hts⟩ (kX5_put l dC dI cI cQ cZ a1 3 sh 0 v1 s.heap.size (by decide)) ⟨va_cnB 3 hts gX1_changeShares_X5_put_n31 rfl rfl rfl (hK.2.1 (.methodLinkNest RX1 31 yX5_put RX5) (by decide +kernel)) (hts (.initialized RX5) (by decide +kernel)) (by decide +kernel) ⟨by decide, by decide⟩, hts (.static yX5_put) (by decide +kernel), trivial⟩ hK (hP.sub (ws' := (wAr cI a1 3 sh)) [1] rfl) hDc hFc hS rfl hl.1 rfl (Nat.le_of_ble_eq_true rfl) dX1_changeShares_6 ⟨by decide, by decide⟩ (fun H1 locs hP1 hD1 hk1 hS => ?_)
  obtain ⟨hP, hD⟩ := va_join (ws := (wCl cI a0 a1 a2 sh wa pl rm lk br)) (wc := (wAr cI a1 3 sh)) (wr := [(a0, .inr (1, [.ref a1, .ref a2, .int pl, .int rm, .int lk, .int br])), (a2, .inl (cI, 12, .inl wa))]) (w1 := (wAr cI a1 3 (sX5_put 3 sh 0 v1))) hP hD [1] [0, 2] rfl rfl (by decide) (by decide) hk1 hFc hP1 hD1
  have hP := hP.sub (ws' := (wCl cI a0 a1 a2 (sX5_put 3 sh 0 v1) wa pl rm lk br)) [0, 2, 1] rfl
  have hD := hD.sub (ws' := (wCl cI a0 a1 a2 (sX5_put 3 sh 0 v1) wa pl rm lk br)) [0, 2, 1] (by decide) rfl
  generalize H1 = H at hP hS ⊢
  have hP : va_P (dC, dI) vwCl (wCl cI a0 a1 a2 (sX5_put 3 sh 0 v1) wa pl rm lk br) H := hP
  have hD : va_D A (wCl cI a0 a1 a2 (sX5_put 3 sh 0 v1) wa pl rm lk br) := hD
  refine lv_aload_n hx hb dX1_changeShares_9 rfl (lv_at hl 0 rfl) ?_
  refine va_get (D := (dC, dI)) (ci := 1) (v := .ref a1) (C := RX1) (T := TX1) (N := 6) hx hb hts hiX1 hown hK.1 hP 0 rfl rfl 0 (by decide) (hts (.fieldLink RX1 9 "CellDays$Cell" "sharesByWarmth" "[I") (by decide +kernel)) (fun _ h9 => h9) rfl dX1_changeShares_10 ?_
  refine lv_iconst (v := 1) hx hb dX1_changeShares_13 (by decide) ?_
  refine lv_iload_n hx hb dX1_changeShares_14 rfl (lv_at hl 2 rfl) ?_
  have hDc : va_D A (wAr cI a1 3 (sX5_put 3 sh 0 v1)) := (hD.sub (ws' := (wAr cI a1 3 (sX5_put 3 sh 0 v1))) [1] (by decide) rfl)
  have hFc := cd_F hDc hS hA
  refine cd_wSv (As := [.ref a1, .int 1, .int v2]) (rest := []) ⟨hx, hb, hml, hown, hts⟩ (kX5_put l dC dI cI cQ cZ a1 3 (sX5_put 3 sh 0 v1) 1 v2 H.size (by decide)) ⟨va_cnB 3 hts gX1_changeShares_X5_put_n31 rfl rfl rfl (hK.2.1 (.methodLinkNest RX1 31 yX5_put RX5) (by decide +kernel)) (hts (.initialized RX5) (by decide +kernel)) (by decide +kernel) ⟨by decide, by decide⟩, hts (.static yX5_put) (by decide +kernel), trivial⟩ hK (hP.sub (ws' := (wAr cI a1 3 (sX5_put 3 sh 0 v1))) [1] rfl) hDc hFc hS rfl hl.1 rfl (Nat.le_of_ble_eq_true rfl) dX1_changeShares_15 ⟨by decide, by decide⟩ (fun H1 locs hP1 hD1 hk1 hS => ?_)
  obtain ⟨hP, hD⟩ := va_join (ws := (wCl cI a0 a1 a2 (sX5_put 3 sh 0 v1) wa pl rm lk br)) (wc := (wAr cI a1 3 (sX5_put 3 sh 0 v1))) (wr := [(a0, .inr (1, [.ref a1, .ref a2, .int pl, .int rm, .int lk, .int br])), (a2, .inl (cI, 12, .inl wa))]) (w1 := (wAr cI a1 3 (sX5_put 3 (sX5_put 3 sh 0 v1) 1 v2))) hP hD [1] [0, 2] rfl rfl (by decide) (by decide) hk1 hFc hP1 hD1
  have hP := hP.sub (ws' := (wCl cI a0 a1 a2 (sX5_put 3 (sX5_put 3 sh 0 v1) 1 v2) wa pl rm lk br)) [0, 2, 1] rfl
  have hD := hD.sub (ws' := (wCl cI a0 a1 a2 (sX5_put 3 (sX5_put 3 sh 0 v1) 1 v2) wa pl rm lk br)) [0, 2, 1] (by decide) rfl
  generalize H1 = H at hP hS ⊢
  have hP : va_P (dC, dI) vwCl (wCl cI a0 a1 a2 (sX5_put 3 (sX5_put 3 sh 0 v1) 1 v2) wa pl rm lk br) H := hP
  have hD : va_D A (wCl cI a0 a1 a2 (sX5_put 3 (sX5_put 3 sh 0 v1) 1 v2) wa pl rm lk br) := hD
  refine lv_aload_n hx hb dX1_changeShares_18 rfl (lv_at hl 0 rfl) ?_
  refine va_get (D := (dC, dI)) (ci := 1) (v := .ref a1) (C := RX1) (T := TX1) (N := 6) hx hb hts hiX1 hown hK.1 hP 0 rfl rfl 0 (by decide) (hts (.fieldLink RX1 9 "CellDays$Cell" "sharesByWarmth" "[I") (by decide +kernel)) (fun _ h9 => h9) rfl dX1_changeShares_19 ?_
  refine lv_iconst (v := 2) hx hb dX1_changeShares_22 (by decide) ?_
  refine lv_iload_n hx hb dX1_changeShares_23 rfl (lv_at hl 3 rfl) ?_
  have hDc : va_D A (wAr cI a1 3 (sX5_put 3 (sX5_put 3 sh 0 v1) 1 v2)) := (hD.sub (ws' := (wAr cI a1 3 (sX5_put 3 (sX5_put 3 sh 0 v1) 1 v2))) [1] (by decide) rfl)
  have hFc := cd_F hDc hS hA
  refine cd_wSv (As := [.ref a1, .int 2, .int v3]) (rest := []) ⟨hx, hb, hml, hown, hts⟩ (kX5_put l dC dI cI cQ cZ a1 3 (sX5_put 3 (sX5_put 3 sh 0 v1) 1 v2) 2 v3 H.size (by decide)) ⟨va_cnB 3 hts gX1_changeShares_X5_put_n31 rfl rfl rfl (hK.2.1 (.methodLinkNest RX1 31 yX5_put RX5) (by decide +kernel)) (hts (.initialized RX5) (by decide +kernel)) (by decide +kernel) ⟨by decide, by decide⟩, hts (.static yX5_put) (by decide +kernel), trivial⟩ hK (hP.sub (ws' := (wAr cI a1 3 (sX5_put 3 (sX5_put 3 sh 0 v1) 1 v2))) [1] rfl) hDc hFc hS rfl hl.1 rfl (Nat.le_of_ble_eq_true rfl) dX1_changeShares_24 ⟨by decide, by decide⟩ (fun H1 locs hP1 hD1 hk1 hS => ?_)
  obtain ⟨hP, hD⟩ := va_join (ws := (wCl cI a0 a1 a2 (sX5_put 3 (sX5_put 3 sh 0 v1) 1 v2) wa pl rm lk br)) (wc := (wAr cI a1 3 (sX5_put 3 (sX5_put 3 sh 0 v1) 1 v2))) (wr := [(a0, .inr (1, [.ref a1, .ref a2, .int pl, .int rm, .int lk, .int br])), (a2, .inl (cI, 12, .inl wa))]) (w1 := (wAr cI a1 3 (sX5_put 3 (sX5_put 3 (sX5_put 3 sh 0 v1) 1 v2) 2 v3))) hP hD [1] [0, 2] rfl rfl (by decide) (by decide) hk1 hFc hP1 hD1
  have hP := hP.sub (ws' := (wCl cI a0 a1 a2 (sX5_put 3 (sX5_put 3 (sX5_put 3 sh 0 v1) 1 v2) 2 v3) wa pl rm lk br)) [0, 2, 1] rfl
  have hD := hD.sub (ws' := (wCl cI a0 a1 a2 (sX5_put 3 (sX5_put 3 (sX5_put 3 sh 0 v1) 1 v2) 2 v3) wa pl rm lk br)) [0, 2, 1] (by decide) rfl
  generalize H1 = H at hP hS ⊢
  have hP : va_P (dC, dI) vwCl (wCl cI a0 a1 a2 (sX5_put 3 (sX5_put 3 (sX5_put 3 sh 0 v1) 1 v2) 2 v3) wa pl rm lk br) H := hP
  have hD : va_D A (wCl cI a0 a1 a2 (sX5_put 3 (sX5_put 3 (sX5_put 3 sh 0 v1) 1 v2) 2 v3) wa pl rm lk br) := hD
  subst hex
  exact hret _ _ _ _ dX1_changeShares_27 hP hD hS

def rX1_changeSeason : Room := { frames := 1, cells := 0, slots := 0, locals := 22 }
def sX1_changeSeason_L5 (nn : Int32) : Nat → Int32 → Nat → (Nat → Int32) → (Nat → Int32) × (Int32)
  | 0, rs, k, wv => ((fun _ => 0), 0)
  | n + 1, rs, k, wv => (if nn ≤ (nI k) then (wv, nn) else (if 12 ≤ (nI k) then (wv, nn) else sX1_changeSeason_L5 nn n (rs / 3) (k + 1) (sX5_put 12 wv (nI k) (rs - rs / 3 * 3))))
def sX1_changeSeason (wa : Nat → Int32) (nn : Int32) (dg : Int32) : (Nat → Int32) × (Int32) := sX1_changeSeason_L5 nn 13 dg 0 wa
set_option maxHeartbeats 4000000 in
set_option maxRecDepth 100000 in
theorem kX1_changeSeason (l : Launch) (dC : Nat → ClassId) (dI : Nat → Nat → Nat) (cI cQ cZ : ClassId) (a0 : Nat) (a1 : Nat) (a2 : Nat) (sh : Nat → Int32) (wa : Nat → Int32) (pl : Int32) (rm : Int32) (lk : Int32) (br : Int32) (nn : Int32) (dg : Int32) (sz : Nat) : Met l yX1_changeSeason wsX1_changeSeason rX1_changeSeason (va_Pc [.ref a0, .int nn, .int dg] (cd_pre dC dI cI cQ cZ (wCl cI a0 a1 a2 sh wa pl rm lk br) sz)) (va_Qv (fun _ => True) (cd_post dC dI (wCl cI a0 a1 a2 sh wa pl rm lk br) (wCl cI a0 a1 a2 sh ((sX1_changeSeason wa nn dg).1) ((sX1_changeSeason wa nn dg).2) rm lk br) sz) (va_A (wCl cI a0 a1 a2 sh wa pl rm lk br) sz)) 0 0 (va_A (wCl cI a0 a1 a2 sh wa pl rm lk br) sz) := by
  have hiX1 : ∀ w ∈ u_ws RX1 TX1 6, w ∈ wsX1_changeSeason := by decide +kernel
  generalize hex : sX1_changeSeason wa nn dg = ex
  unfold sX1_changeSeason at hex
  refine cd_mMv [.ref a0, .int nn, .int dg] (by decide) rfl (Nat.le_of_ble_eq_true rfl) ?_
  intro Q A p e s m args below meth c ls hx hb hml hown hts hA hinit hret hK hP hD hS hl
  have hl : lv_has ls 5 [(0, .ref a0), (1, .int nn), (2, .int dg)] := hl
  refine lv_iload_n hx hb dX1_changeSeason_0 rfl (lv_at hl 2 rfl) ?_
  refine lv_istore_n (lv' := [(3, .int dg), (0, .ref a0), (1, .int nn), (2, .int dg)]) hx hb dX1_changeSeason_1 rfl hl (by decide) rfl (fun ls hl => ?_)
  refine lv_iconst (v := 0) hx hb dX1_changeSeason_2 (by decide) ?_
  refine lv_istore (lv' := [(4, .int 0), (3, .int dg), (0, .ref a0), (1, .int nn), (2, .int dg)]) hx hb dX1_changeSeason_3 hl (by decide) rfl (fun ls hl => ?_)
  have L5 : ∀ (n : Nat) (rs : Int32) (k : Nat) (wv : Nat → Int32), (k ≤ 12) → 12 - k < n → sX1_changeSeason_L5 nn n rs k wv = ex → ∀ (ls : Array Slot) (H : Heap) (locs : List Loc), lv_has ls 5 [(4, .int (nI k)), (3, .int rs), (0, .ref a0), (1, .int nn), (2, .int dg)] → va_P (dC, dI) vwCl (wCl cI a0 a1 a2 sh wv pl rm lk br) H → va_D A (wCl cI a0 a1 a2 sh wv pl rm lk br) → va_S A s.heap H locs → W p l e rX1_changeSeason s m args below meth c H locs 0 0 Q (F0 m 5 ls []) := by
    intro n
    induction n with
    | zero => intro rs k wv hk hm; exact absurd hm (Nat.not_lt_zero _)
    | succ n ih =>
      intro rs k wv hk hm hex ls H locs hl hP hD hS
      rw [sX1_changeSeason_L5] at hex
      refine lv_iload hx hb dX1_changeSeason_5 (lv_at hl 0 rfl) ?_
      refine lv_iload_n hx hb dX1_changeSeason_7 rfl (lv_at hl 3 rfl) ?_
      refine lv_icmp_ge (tgt := 40) hx hb dX1_changeSeason_8 (by decide) (fun c_1 => ?_) (fun c_1 => ?_)
      · rw [if_pos c_1] at hex
        refine lv_aload_n hx hb dX1_changeSeason_40 rfl (lv_at hl 2 rfl) ?_
        refine lv_iload_n hx hb dX1_changeSeason_41 rfl (lv_at hl 3 rfl) ?_
        refine va_put (D := (dC, dI)) (ci := 1) (v := .int nn) (ty := .int) (C := RX1) (T := TX1) (N := 6) hx hb hts hiX1 tyX1 tyX1_ok nmX1 hown hK.1 hP hD hS 0 rfl rfl 2 (by decide) (hts (.fieldLink RX1 18 "CellDays$Cell" "places" "I") (by decide +kernel)) (fun _ h9 => h9) rfl (by decide +kernel) (rfl) (rfl) (Nat.le_of_ble_eq_true rfl) dX1_changeSeason_42 (fun H locs hP hD hS => ?_)
        have hP : va_P (dC, dI) vwCl (wCl cI a0 a1 a2 sh wv nn rm lk br) H := hP
        have hD : va_D A (wCl cI a0 a1 a2 sh wv nn rm lk br) := hD
        subst hex
        exact hret _ _ _ _ dX1_changeSeason_45 hP hD hS
      · rw [if_neg c_1] at hex
        refine lv_iload hx hb dX1_changeSeason_11 (lv_at hl 0 rfl) ?_
        refine lv_bipush (v := 12) hx hb dX1_changeSeason_13 (by decide) ?_
        refine lv_icmp_ge (tgt := 40) hx hb dX1_changeSeason_15 (by decide) (fun c_2 => ?_) (fun c_2 => ?_)
        · rw [if_pos c_2] at hex
          try have n_2 : 12 ≤ k := (nI_leI (a := 12) (b := k) (by omega) (by omega)).mp c_2
          refine lv_aload_n hx hb dX1_changeSeason_40 rfl (lv_at hl 2 rfl) ?_
          refine lv_iload_n hx hb dX1_changeSeason_41 rfl (lv_at hl 3 rfl) ?_
          refine va_put (D := (dC, dI)) (ci := 1) (v := .int nn) (ty := .int) (C := RX1) (T := TX1) (N := 6) hx hb hts hiX1 tyX1 tyX1_ok nmX1 hown hK.1 hP hD hS 0 rfl rfl 2 (by decide) (hts (.fieldLink RX1 18 "CellDays$Cell" "places" "I") (by decide +kernel)) (fun _ h9 => h9) rfl (by decide +kernel) (rfl) (rfl) (Nat.le_of_ble_eq_true rfl) dX1_changeSeason_42 (fun H locs hP hD hS => ?_)
          have hP : va_P (dC, dI) vwCl (wCl cI a0 a1 a2 sh wv nn rm lk br) H := hP
          have hD : va_D A (wCl cI a0 a1 a2 sh wv nn rm lk br) := hD
          subst hex
          exact hret _ _ _ _ dX1_changeSeason_45 hP hD hS
        · rw [if_neg c_2] at hex
          try have n_2 : ¬ 12 ≤ k := fun h9 => c_2 ((nI_leI (a := 12) (b := k) (by omega) (by omega)).mpr h9)
          refine lv_aload_n hx hb dX1_changeSeason_18 rfl (lv_at hl 2 rfl) ?_
          refine va_get (D := (dC, dI)) (ci := 1) (v := .ref a2) (C := RX1) (T := TX1) (N := 6) hx hb hts hiX1 hown hK.1 hP 0 rfl rfl 1 (by decide) (hts (.fieldLink RX1 15 "CellDays$Cell" "warmths" "[I") (by decide +kernel)) (fun _ h9 => h9) rfl dX1_changeSeason_19 ?_
          refine lv_iload hx hb dX1_changeSeason_22 (lv_at hl 0 rfl) ?_
          refine lv_iload_n hx hb dX1_changeSeason_24 rfl (lv_at hl 1 rfl) ?_
          refine lv_iconst (v := 3) hx hb dX1_changeSeason_25 (by decide) ?_
          refine lv_irem hx hb dX1_changeSeason_26 (by decide) ?_
          have hDc : va_D A (wAr cI a2 12 wv) := (hD.sub (ws' := (wAr cI a2 12 wv)) [2] (by decide) rfl)
          have hFc := cd_F hDc hS hA
          refine cd_wSv (As := [.ref a2, .int (nI k), .int (rs - rs / 3 * 3)]) (rest := []) ⟨hx, hb, hml, hown, hts⟩ (kX5_put l dC dI cI cQ cZ a2 12 wv (nI k) (rs - rs / 3 * 3) H.size (by decide)) ⟨va_cnB 3 hts gX1_changeSeason_X5_put_n31 rfl rfl rfl (hK.2.1 (.methodLinkNest RX1 31 yX5_put RX5) (by decide +kernel)) (hts (.initialized RX5) (by decide +kernel)) (by decide +kernel) ⟨by decide, by decide⟩, hts (.static yX5_put) (by decide +kernel), trivial⟩ hK (hP.sub (ws' := (wAr cI a2 12 wv)) [2] rfl) hDc hFc hS rfl hl.1 rfl (Nat.le_of_ble_eq_true rfl) dX1_changeSeason_27 ⟨by decide, by decide⟩ (fun H1 locs hP1 hD1 hk1 hS => ?_)
          obtain ⟨hP, hD⟩ := va_join (ws := (wCl cI a0 a1 a2 sh wv pl rm lk br)) (wc := (wAr cI a2 12 wv)) (wr := [(a0, .inr (1, [.ref a1, .ref a2, .int pl, .int rm, .int lk, .int br])), (a1, .inl (cI, 3, .inl sh))]) (w1 := (wAr cI a2 12 (sX5_put 12 wv (nI k) (rs - rs / 3 * 3)))) hP hD [2] [0, 1] rfl rfl (by decide) (by decide) hk1 hFc hP1 hD1
          have hP := hP.sub (ws' := (wCl cI a0 a1 a2 sh (sX5_put 12 wv (nI k) (rs - rs / 3 * 3)) pl rm lk br)) [0, 1, 2] rfl
          have hD := hD.sub (ws' := (wCl cI a0 a1 a2 sh (sX5_put 12 wv (nI k) (rs - rs / 3 * 3)) pl rm lk br)) [0, 1, 2] (by decide) rfl
          generalize H1 = H at hP hS ⊢
          have hP : va_P (dC, dI) vwCl (wCl cI a0 a1 a2 sh (sX5_put 12 wv (nI k) (rs - rs / 3 * 3)) pl rm lk br) H := hP
          have hD : va_D A (wCl cI a0 a1 a2 sh (sX5_put 12 wv (nI k) (rs - rs / 3 * 3)) pl rm lk br) := hD
          refine lv_iload_n hx hb dX1_changeSeason_30 rfl (lv_at hl 1 rfl) ?_
          refine lv_iconst (v := 3) hx hb dX1_changeSeason_31 (by decide) ?_
          refine lv_idiv hx hb dX1_changeSeason_32 (by decide) ?_
          refine lv_istore_n (lv' := [(3, .int (rs / 3)), (4, .int (nI k)), (0, .ref a0), (1, .int nn), (2, .int dg)]) hx hb dX1_changeSeason_33 rfl hl (by decide) rfl (fun ls hl => ?_)
          refine lv_iinc (v := nI (k + 1)) (lv' := [(4, .int (nI (k + 1))), (3, .int (rs / 3)), (0, .ref a0), (1, .int nn), (2, .int dg)]) hx hb dX1_changeSeason_34 hl (k := 1) rfl (nI_1 k) (by decide) rfl (fun ls hl => ?_)
          refine lv_goto (tgt := 5) hx hb dX1_changeSeason_37 (by decide) ?_
          exact ih (rs / 3) (k + 1) (sX5_put 12 wv (nI k) (rs - rs / 3 * 3)) (by omega) (by omega) hex _ _ _ (lv_sub hl [0, 1, 2, 3, 4] rfl) hP hD hS
  exact L5 13 dg 0 wa (by decide) (by decide) hex _ _ _ (lv_sub hl [0, 1, 2, 3, 4] rfl) hP hD hS

def rX1_shareOn : Room := { frames := 1, cells := 0, slots := 0, locals := 21 }
def sX1_shareOn (sh : Nat → Int32) (wa : Nat → Int32) (pl : Int32) (dd : Int32) : Int32 := (sX5_at 3 sh (sX5_at 12 wa (if pl ≤ 0 then 0 else dd - dd / pl * pl)))
set_option maxHeartbeats 4000000 in
set_option maxRecDepth 100000 in
theorem kX1_shareOn (l : Launch) (dC : Nat → ClassId) (dI : Nat → Nat → Nat) (cI cQ cZ : ClassId) (a0 : Nat) (a1 : Nat) (a2 : Nat) (sh : Nat → Int32) (wa : Nat → Int32) (pl : Int32) (rm : Int32) (lk : Int32) (br : Int32) (dd : Int32) : Met l yX1_shareOn wsX1_shareOn rX1_shareOn (va_Pc [.ref a0, .int dd] (cd_rp dC dI cI cQ cZ (wCl cI a0 a1 a2 sh wa pl rm lk br))) (vp_Si (fun r => r = sX1_shareOn sh wa pl dd)) 0 0 (fun _ => False) := by
  have hiX1 : ∀ w ∈ u_ws RX1 TX1 6, w ∈ wsX1_shareOn := by decide +kernel
  generalize hex : sX1_shareOn sh wa pl dd = ex
  unfold sX1_shareOn at hex
  refine cd_mRi [.ref a0, .int dd] (by decide) rfl (Nat.le_of_ble_eq_true rfl) ?_
  intro Q p e s m args below meth c ls hx hb hml hown hts hret ⟨hK, hP⟩ hl
  have hl : lv_has ls 3 [(0, .ref a0), (1, .int dd)] := hl
  refine lv_aload_n hx hb dX1_shareOn_0 rfl (lv_at hl 0 rfl) ?_
  refine va_get (D := (dC, dI)) (ci := 1) (v := .int pl) (C := RX1) (T := TX1) (N := 6) hx hb hts hiX1 hown hK.1 hP 0 rfl rfl 2 (by decide) (hts (.fieldLink RX1 18 "CellDays$Cell" "places" "I") (by decide +kernel)) (fun _ h9 => h9) rfl dX1_shareOn_1 ?_
  have J_1 : W p l e rX1_shareOn s m args below meth c s.heap [] 0 0 Q (F0 m 17 ls [.int (if pl ≤ 0 then 0 else dd - dd / pl * pl)]) := by
    refine lv_istore_n (lv' := [(2, .int (if pl ≤ 0 then 0 else dd - dd / pl * pl)), (0, .ref a0), (1, .int dd)]) hx hb dX1_shareOn_17 rfl hl (by decide) rfl (fun ls hl => ?_)
    refine lv_aload_n hx hb dX1_shareOn_18 rfl (lv_at hl 1 rfl) ?_
    refine va_get (D := (dC, dI)) (ci := 1) (v := .ref a1) (C := RX1) (T := TX1) (N := 6) hx hb hts hiX1 hown hK.1 hP 0 rfl rfl 0 (by decide) (hts (.fieldLink RX1 9 "CellDays$Cell" "sharesByWarmth" "[I") (by decide +kernel)) (fun _ h9 => h9) rfl dX1_shareOn_19 ?_
    refine lv_aload_n hx hb dX1_shareOn_22 rfl (lv_at hl 1 rfl) ?_
    refine va_get (D := (dC, dI)) (ci := 1) (v := .ref a2) (C := RX1) (T := TX1) (N := 6) hx hb hts hiX1 hown hK.1 hP 0 rfl rfl 1 (by decide) (hts (.fieldLink RX1 15 "CellDays$Cell" "warmths" "[I") (by decide +kernel)) (fun _ h9 => h9) rfl dX1_shareOn_23 ?_
    refine lv_iload_n hx hb dX1_shareOn_26 rfl (lv_at hl 0 rfl) ?_
    refine cd_rSN (As := [.ref a2, .int (if pl ≤ 0 then 0 else dd - dd / pl * pl)]) (rest := [.ref a1]) ⟨hx, hb, hml, hown, hts⟩ (kX5_at l dC dI cI cQ cZ a2 12 wa (if pl ≤ 0 then 0 else dd - dd / pl * pl) (by decide)) ⟨va_cnB 2 hts gX1_shareOn_X5_at_n35 rfl rfl rfl (hK.2.1 (.methodLinkNest RX1 35 yX5_at RX5) (by decide +kernel)) (hts (.initialized RX5) (by decide +kernel)) (by decide +kernel) ⟨by decide, by decide⟩, hts (.static yX5_at) (by decide +kernel), trivial⟩ hK (hP.sub (ws' := (wAr cI a2 12 wa)) [2] rfl) rfl hl.1 rfl (Nat.le_of_ble_eq_true rfl) dX1_shareOn_27 ⟨by decide, by decide⟩ ?_
    refine cd_rSN (As := [.ref a1, .int (sX5_at 12 wa (if pl ≤ 0 then 0 else dd - dd / pl * pl))]) (rest := []) ⟨hx, hb, hml, hown, hts⟩ (kX5_at l dC dI cI cQ cZ a1 3 sh (sX5_at 12 wa (if pl ≤ 0 then 0 else dd - dd / pl * pl)) (by decide)) ⟨va_cnB 2 hts gX1_shareOn_X5_at_n35 rfl rfl rfl (hK.2.1 (.methodLinkNest RX1 35 yX5_at RX5) (by decide +kernel)) (hts (.initialized RX5) (by decide +kernel)) (by decide +kernel) ⟨by decide, by decide⟩, hts (.static yX5_at) (by decide +kernel), trivial⟩ hK (hP.sub (ws' := (wAr cI a1 3 sh)) [1] rfl) rfl hl.1 rfl (Nat.le_of_ble_eq_true rfl) dX1_shareOn_30 ⟨by decide, by decide⟩ ?_
    subst hex
    exact hret _ _ dX1_shareOn_33
  refine lv_if_le (tgt := 16) hx hb dX1_shareOn_4 (by decide) (fun c_2 => ?_) (fun c_2 => ?_)
  · skip
    refine lv_iconst (v := 0) hx hb dX1_shareOn_16 (by decide) ?_
    rw [if_pos c_2] at J_1
    exact J_1
  · skip
    refine lv_iload_n hx hb dX1_shareOn_7 rfl (lv_at hl 1 rfl) ?_
    refine lv_aload_n hx hb dX1_shareOn_8 rfl (lv_at hl 0 rfl) ?_
    refine va_get (D := (dC, dI)) (ci := 1) (v := .int pl) (C := RX1) (T := TX1) (N := 6) hx hb hts hiX1 hown hK.1 hP 0 rfl rfl 2 (by decide) (hts (.fieldLink RX1 18 "CellDays$Cell" "places" "I") (by decide +kernel)) (fun _ h9 => h9) rfl dX1_shareOn_9 ?_
    refine lv_irem hx hb dX1_shareOn_12 (cd_nle0 c_2) ?_
    refine lv_goto (tgt := 17) hx hb dX1_shareOn_13 (by decide) ?_
    rw [if_neg c_2] at J_1
    exact J_1

def rX1_chargeAtFirst : Room := { frames := 0, cells := 0, slots := 0, locals := 0 }
def sX1_chargeAtFirst (rm : Int32) : Int32 := (rm * 1000)
set_option maxHeartbeats 4000000 in
set_option maxRecDepth 100000 in
theorem kX1_chargeAtFirst (l : Launch) (dC : Nat → ClassId) (dI : Nat → Nat → Nat) (cI cQ cZ : ClassId) (a0 : Nat) (a1 : Nat) (a2 : Nat) (sh : Nat → Int32) (wa : Nat → Int32) (pl : Int32) (rm : Int32) (lk : Int32) (br : Int32) : Met l yX1_chargeAtFirst wsX1_chargeAtFirst rX1_chargeAtFirst (va_Pc [.ref a0] (cd_rp dC dI cI cQ cZ (wCl cI a0 a1 a2 sh wa pl rm lk br))) (vp_Si (fun r => r = sX1_chargeAtFirst rm)) 0 0 (fun _ => False) := by
  have hiX1 : ∀ w ∈ u_ws RX1 TX1 6, w ∈ wsX1_chargeAtFirst := by decide +kernel
  generalize hex : sX1_chargeAtFirst rm = ex
  unfold sX1_chargeAtFirst at hex
  refine cd_mRi [.ref a0] (by decide) rfl (Nat.le_of_ble_eq_true rfl) ?_
  intro Q p e s m args below meth c ls hx hb hml hown hts hret ⟨hK, hP⟩ hl
  have hl : lv_has ls 1 [(0, .ref a0)] := hl
  refine lv_aload_n hx hb dX1_chargeAtFirst_0 rfl (lv_at hl 0 rfl) ?_
  refine va_get (D := (dC, dI)) (ci := 1) (v := .int rm) (C := RX1) (T := TX1) (N := 6) hx hb hts hiX1 hown hK.1 hP 0 rfl rfl 3 (by decide) (hts (.fieldLink RX1 22 "CellDays$Cell" "room" "I") (by decide +kernel)) (fun _ h9 => h9) rfl dX1_chargeAtFirst_1 ?_
  refine lv_sipush (v := 1000) hx hb dX1_chargeAtFirst_4 (by decide) ?_
  refine lv_imul hx hb dX1_chargeAtFirst_7 ?_
  subst hex
  exact hret _ _ dX1_chargeAtFirst_8

def rX1_chargeBehind : Room := { frames := 0, cells := 0, slots := 0, locals := 0 }
def sX1_chargeBehind (cg : Int32) (sr : Int32) (le : Int32) (ld : Int32) : Int32 := (if cg < 0 then (-1) else (if 0 < sr then ((cg - (((cg * le) + 999) / 1000)) - ((((ld * 100) + sr) - 1) / sr)) else (-1)))
set_option maxHeartbeats 4000000 in
set_option maxRecDepth 100000 in
theorem kX1_chargeBehind (l : Launch) (dC : Nat → ClassId) (dI : Nat → Nat → Nat) (cI cQ cZ : ClassId) (a0 : Nat) (a1 : Nat) (a2 : Nat) (sh : Nat → Int32) (wa : Nat → Int32) (pl : Int32) (rm : Int32) (lk : Int32) (br : Int32) (cg : Int32) (sr : Int32) (le : Int32) (ld : Int32) : Met l yX1_chargeBehind wsX1_chargeBehind rX1_chargeBehind (va_Pc [.ref a0, .int cg, .int sr, .int le, .int ld] (cd_rp dC dI cI cQ cZ (wCl cI a0 a1 a2 sh wa pl rm lk br))) (vp_Si (fun r => r = sX1_chargeBehind cg sr le ld)) 0 0 (fun _ => False) := by
  generalize hex : sX1_chargeBehind cg sr le ld = ex
  unfold sX1_chargeBehind at hex
  refine cd_mRi [.ref a0, .int cg, .int sr, .int le, .int ld] (by decide) rfl (Nat.le_of_ble_eq_true rfl) ?_
  intro Q p e s m args below meth c ls hx hb hml hown hts hret ⟨hK, hP⟩ hl
  have hl : lv_has ls 7 [(0, .ref a0), (1, .int cg), (2, .int sr), (3, .int le), (4, .int ld)] := hl
  refine lv_iload_n hx hb dX1_chargeBehind_0 rfl (lv_at hl 1 rfl) ?_
  refine lv_if_lt (tgt := 8) hx hb dX1_chargeBehind_1 (by decide) (fun c_1 => ?_) (fun c_1 => ?_)
  · rw [if_pos c_1] at hex
    refine lv_iconst (v := (-1)) hx hb dX1_chargeBehind_8 (by decide) ?_
    subst hex
    exact hret _ _ dX1_chargeBehind_9
  · rw [if_neg c_1] at hex
    refine lv_iload_n hx hb dX1_chargeBehind_4 rfl (lv_at hl 2 rfl) ?_
    refine lv_if_gt (tgt := 10) hx hb dX1_chargeBehind_5 (by decide) (fun c_2 => ?_) (fun c_2 => ?_)
    · rw [if_pos c_2] at hex
      refine lv_iload_n hx hb dX1_chargeBehind_10 rfl (lv_at hl 1 rfl) ?_
      refine lv_iload_n hx hb dX1_chargeBehind_11 rfl (lv_at hl 3 rfl) ?_
      refine lv_imul hx hb dX1_chargeBehind_12 ?_
      refine lv_sipush (v := 999) hx hb dX1_chargeBehind_13 (by decide) ?_
      refine lv_iadd hx hb dX1_chargeBehind_16 ?_
      refine lv_sipush (v := 1000) hx hb dX1_chargeBehind_17 (by decide) ?_
      refine lv_idiv hx hb dX1_chargeBehind_20 (by decide) ?_
      refine lv_istore (lv' := [(5, .int (((cg * le) + 999) / 1000)), (0, .ref a0), (1, .int cg), (2, .int sr), (3, .int le), (4, .int ld)]) hx hb dX1_chargeBehind_21 hl (by decide) rfl (fun ls hl => ?_)
      refine lv_iload hx hb dX1_chargeBehind_23 (lv_at hl 5 rfl) ?_
      refine lv_bipush (v := 100) hx hb dX1_chargeBehind_25 (by decide) ?_
      refine lv_imul hx hb dX1_chargeBehind_27 ?_
      refine lv_iload_n hx hb dX1_chargeBehind_28 rfl (lv_at hl 3 rfl) ?_
      refine lv_iadd hx hb dX1_chargeBehind_29 ?_
      refine lv_iconst (v := 1) hx hb dX1_chargeBehind_30 (by decide) ?_
      refine lv_isub hx hb dX1_chargeBehind_31 ?_
      refine lv_iload_n hx hb dX1_chargeBehind_32 rfl (lv_at hl 3 rfl) ?_
      refine lv_idiv hx hb dX1_chargeBehind_33 (cd_ne0 c_2) ?_
      refine lv_istore (lv' := [(6, .int ((((ld * 100) + sr) - 1) / sr)), (5, .int (((cg * le) + 999) / 1000)), (0, .ref a0), (1, .int cg), (2, .int sr), (3, .int le), (4, .int ld)]) hx hb dX1_chargeBehind_34 hl (by decide) rfl (fun ls hl => ?_)
      refine lv_iload_n hx hb dX1_chargeBehind_36 rfl (lv_at hl 3 rfl) ?_
      refine lv_iload hx hb dX1_chargeBehind_37 (lv_at hl 1 rfl) ?_
      refine lv_isub hx hb dX1_chargeBehind_39 ?_
      refine lv_iload hx hb dX1_chargeBehind_40 (lv_at hl 0 rfl) ?_
      refine lv_isub hx hb dX1_chargeBehind_42 ?_
      subst hex
      exact hret _ _ dX1_chargeBehind_43
    · rw [if_neg c_2] at hex
      refine lv_iconst (v := (-1)) hx hb dX1_chargeBehind_8 (by decide) ?_
      subst hex
      exact hret _ _ dX1_chargeBehind_9

def rX1_chargeFrom : Room := { frames := 2, cells := 0, slots := 0, locals := 43 }
def sX1_chargeFrom_L6 (sh : Nat → Int32) (wa : Nat → Int32) (pl : Int32) (to : Int32) (le : Int32) (ld : Int32) : Nat → Int32 → Int32 → Int32
  | 0, lf, k => 0
  | n + 1, lf, k => (if to ≤ k then lf else (if lf < 0 then lf else sX1_chargeFrom_L6 sh wa pl to le ld n (sX1_chargeBehind lf (sX1_shareOn sh wa pl k) le ld) (k + 1)))
def sX1_chargeFrom (sh : Nat → Int32) (wa : Nat → Int32) (pl : Int32) (cg : Int32) (fr : Int32) (to : Int32) (le : Int32) (ld : Int32) : Int32 := sX1_chargeFrom_L6 sh wa pl to le ld 401 cg fr
set_option maxHeartbeats 4000000 in
set_option maxRecDepth 100000 in
theorem kX1_chargeFrom (l : Launch) (dC : Nat → ClassId) (dI : Nat → Nat → Nat) (cI cQ cZ : ClassId) (a0 : Nat) (a1 : Nat) (a2 : Nat) (sh : Nat → Int32) (wa : Nat → Int32) (pl : Int32) (rm : Int32) (lk : Int32) (br : Int32) (cg : Int32) (fr : Int32) (to : Int32) (le : Int32) (ld : Int32) (hf0 : 0 ≤ fr.toInt) (hf1 : fr.toInt ≤ 400) (ht : to.toInt ≤ 400) : Met l yX1_chargeFrom wsX1_chargeFrom rX1_chargeFrom (va_Pc [.ref a0, .int cg, .int fr, .int to, .int le, .int ld] (cd_rp dC dI cI cQ cZ (wCl cI a0 a1 a2 sh wa pl rm lk br))) (vp_Si (fun r => r = sX1_chargeFrom sh wa pl cg fr to le ld)) 0 0 (fun _ => False) := by
  generalize hex : sX1_chargeFrom sh wa pl cg fr to le ld = ex
  unfold sX1_chargeFrom at hex
  refine cd_mRi [.ref a0, .int cg, .int fr, .int to, .int le, .int ld] (by decide) rfl (Nat.le_of_ble_eq_true rfl) ?_
  intro Q p e s m args below meth c ls hx hb hml hown hts hret ⟨hK, hP⟩ hl
  have hl : lv_has ls 8 [(0, .ref a0), (1, .int cg), (2, .int fr), (3, .int to), (4, .int le), (5, .int ld)] := hl
  refine lv_iload_n hx hb dX1_chargeFrom_0 rfl (lv_at hl 1 rfl) ?_
  refine lv_istore (lv' := [(6, .int cg), (0, .ref a0), (1, .int cg), (2, .int fr), (3, .int to), (4, .int le), (5, .int ld)]) hx hb dX1_chargeFrom_1 hl (by decide) rfl (fun ls hl => ?_)
  refine lv_iload_n hx hb dX1_chargeFrom_3 rfl (lv_at hl 3 rfl) ?_
  refine lv_istore (lv' := [(7, .int fr), (6, .int cg), (0, .ref a0), (1, .int cg), (2, .int fr), (3, .int to), (4, .int le), (5, .int ld)]) hx hb dX1_chargeFrom_4 hl (by decide) rfl (fun ls hl => ?_)
  have L6 : ∀ (n : Nat) (lf : Int32) (k : Int32), (0 ≤ k.toInt) → (k.toInt ≤ 400) → (400 - k.toInt).toNat < n → sX1_chargeFrom_L6 sh wa pl to le ld n lf k = ex → ∀ (ls : Array Slot), lv_has ls 8 [(7, .int k), (6, .int lf), (0, .ref a0), (1, .int cg), (2, .int fr), (3, .int to), (4, .int le), (5, .int ld)] → W p l e rX1_chargeFrom s m args below meth c s.heap [] 0 0 Q (F0 m 6 ls []) := by
    intro n
    induction n with
    | zero => intro lf k hk0 hk1 hm; exact absurd hm (Nat.not_lt_zero _)
    | succ n ih =>
      intro lf k hk0 hk1 hm hex ls hl
      rw [sX1_chargeFrom_L6] at hex
      refine lv_iload hx hb dX1_chargeFrom_6 (lv_at hl 0 rfl) ?_
      refine lv_iload_n hx hb dX1_chargeFrom_8 rfl (lv_at hl 5 rfl) ?_
      refine lv_icmp_ge (tgt := 41) hx hb dX1_chargeFrom_9 (by decide) (fun c_1 => ?_) (fun c_1 => ?_)
      · rw [if_pos c_1] at hex
        refine lv_iload hx hb dX1_chargeFrom_41 (lv_at hl 1 rfl) ?_
        subst hex
        exact hret _ _ dX1_chargeFrom_43
      · rw [if_neg c_1] at hex
        refine lv_iload hx hb dX1_chargeFrom_12 (lv_at hl 1 rfl) ?_
        refine lv_if_lt (tgt := 41) hx hb dX1_chargeFrom_14 (by decide) (fun c_2 => ?_) (fun c_2 => ?_)
        · rw [if_pos c_2] at hex
          refine lv_iload hx hb dX1_chargeFrom_41 (lv_at hl 1 rfl) ?_
          subst hex
          exact hret _ _ dX1_chargeFrom_43
        · rw [if_neg c_2] at hex
          refine lv_aload_n hx hb dX1_chargeFrom_17 rfl (lv_at hl 2 rfl) ?_
          refine lv_iload hx hb dX1_chargeFrom_18 (lv_at hl 1 rfl) ?_
          refine lv_aload_n hx hb dX1_chargeFrom_20 rfl (lv_at hl 2 rfl) ?_
          refine lv_iload hx hb dX1_chargeFrom_21 (lv_at hl 0 rfl) ?_
          refine cd_rV (As := [.int k]) (b := a0) (ci := 1) (q := (RX1, TX1, 6)) (rest := [.int lf, .ref a0]) ⟨hx, hb, hml, hown, hts⟩ (kX1_shareOn l dC dI cI cQ cZ a0 a1 a2 sh wa pl rm lk br k) (cwV 1 hts gX1_chargeFrom_X1_shareOn rfl rfl rfl (by decide +kernel) ⟨by decide, by decide⟩) hK hP rfl rfl rfl hl.1 rfl (Nat.le_of_ble_eq_true rfl) dX1_chargeFrom_23 ⟨by decide, by decide⟩ ?_
          refine lv_iload hx hb dX1_chargeFrom_26 (lv_at hl 6 rfl) ?_
          refine lv_iload hx hb dX1_chargeFrom_28 (lv_at hl 7 rfl) ?_
          refine cd_rV (As := [.int lf, .int (sX1_shareOn sh wa pl k), .int le, .int ld]) (b := a0) (ci := 1) (q := (RX1, TX1, 6)) (rest := []) ⟨hx, hb, hml, hown, hts⟩ (kX1_chargeBehind l dC dI cI cQ cZ a0 a1 a2 sh wa pl rm lk br lf (sX1_shareOn sh wa pl k) le ld) (cwV 4 hts gX1_chargeFrom_X1_chargeBehind rfl rfl rfl (by decide +kernel) ⟨by decide, by decide⟩) hK hP rfl rfl rfl hl.1 rfl (Nat.le_of_ble_eq_true rfl) dX1_chargeFrom_30 ⟨by decide, by decide⟩ ?_
          refine lv_istore (lv' := [(6, .int (sX1_chargeBehind lf (sX1_shareOn sh wa pl k) le ld)), (7, .int k), (0, .ref a0), (1, .int cg), (2, .int fr), (3, .int to), (4, .int le), (5, .int ld)]) hx hb dX1_chargeFrom_33 hl (by decide) rfl (fun ls hl => ?_)
          refine lv_iinc (v := k + 1) (lv' := [(7, .int (k + 1)), (6, .int (sX1_chargeBehind lf (sX1_shareOn sh wa pl k) le ld)), (0, .ref a0), (1, .int cg), (2, .int fr), (3, .int to), (4, .int le), (5, .int ld)]) hx hb dX1_chargeFrom_35 hl (k := 1) rfl (rfl) (by decide) rfl (fun ls hl => ?_)
          refine lv_goto (tgt := 6) hx hb dX1_chargeFrom_38 (by decide) ?_
          exact ih (sX1_chargeBehind lf (sX1_shareOn sh wa pl k) le ld) (k + 1) (by have h7 := cd_nle c_1; have h8 := cd_inc hk0 (by omega); omega) (by have h7 := cd_nle c_1; have h8 := cd_inc hk0 (by omega); omega) (by have h7 := cd_nle c_1; have h8 := cd_inc hk0 (by omega); omega) hex _ (lv_sub hl [0, 1, 2, 3, 4, 5, 6, 7] rfl)
  exact L6 401 cg fr hf0 hf1 (by omega) hex _ (lv_sub hl [0, 1, 2, 3, 4, 5, 6, 7] rfl)

def rX1_chargeAhead : Room := { frames := 3, cells := 0, slots := 0, locals := 70 }
def sX1_chargeAhead (sh : Nat → Int32) (wa : Nat → Int32) (pl : Int32) (rm : Int32) (to : Int32) (le : Int32) (ld : Int32) : Int32 := (sX1_chargeFrom sh wa pl (sX1_chargeAtFirst rm) 0 to le ld)
set_option maxHeartbeats 4000000 in
set_option maxRecDepth 100000 in
theorem kX1_chargeAhead (l : Launch) (dC : Nat → ClassId) (dI : Nat → Nat → Nat) (cI cQ cZ : ClassId) (a0 : Nat) (a1 : Nat) (a2 : Nat) (sh : Nat → Int32) (wa : Nat → Int32) (pl : Int32) (rm : Int32) (lk : Int32) (br : Int32) (to : Int32) (le : Int32) (ld : Int32) (ht : to.toInt ≤ 400) : Met l yX1_chargeAhead wsX1_chargeAhead rX1_chargeAhead (va_Pc [.ref a0, .int to, .int le, .int ld] (cd_rp dC dI cI cQ cZ (wCl cI a0 a1 a2 sh wa pl rm lk br))) (vp_Si (fun r => r = sX1_chargeAhead sh wa pl rm to le ld)) 0 0 (fun _ => False) := by
  generalize hex : sX1_chargeAhead sh wa pl rm to le ld = ex
  unfold sX1_chargeAhead at hex
  refine cd_mRi [.ref a0, .int to, .int le, .int ld] (by decide) rfl (Nat.le_of_ble_eq_true rfl) ?_
  intro Q p e s m args below meth c ls hx hb hml hown hts hret ⟨hK, hP⟩ hl
  have hl : lv_has ls 4 [(0, .ref a0), (1, .int to), (2, .int le), (3, .int ld)] := hl
  refine lv_aload_n hx hb dX1_chargeAhead_0 rfl (lv_at hl 0 rfl) ?_
  refine lv_aload_n hx hb dX1_chargeAhead_1 rfl (lv_at hl 0 rfl) ?_
  refine cd_rV (As := []) (b := a0) (ci := 1) (q := (RX1, TX1, 6)) (rest := [.ref a0]) ⟨hx, hb, hml, hown, hts⟩ (kX1_chargeAtFirst l dC dI cI cQ cZ a0 a1 a2 sh wa pl rm lk br) (cwV 0 hts gX1_chargeAhead_X1_chargeAtFirst rfl rfl rfl (by decide +kernel) ⟨by decide, by decide⟩) hK hP rfl rfl rfl hl.1 rfl (Nat.le_of_ble_eq_true rfl) dX1_chargeAhead_2 ⟨by decide, by decide⟩ ?_
  refine lv_iconst (v := 0) hx hb dX1_chargeAhead_5 (by decide) ?_
  refine lv_iload_n hx hb dX1_chargeAhead_6 rfl (lv_at hl 1 rfl) ?_
  refine lv_iload_n hx hb dX1_chargeAhead_7 rfl (lv_at hl 2 rfl) ?_
  refine lv_iload_n hx hb dX1_chargeAhead_8 rfl (lv_at hl 3 rfl) ?_
  refine cd_rV (As := [.int (sX1_chargeAtFirst rm), .int 0, .int to, .int le, .int ld]) (b := a0) (ci := 1) (q := (RX1, TX1, 6)) (rest := []) ⟨hx, hb, hml, hown, hts⟩ (kX1_chargeFrom l dC dI cI cQ cZ a0 a1 a2 sh wa pl rm lk br (sX1_chargeAtFirst rm) 0 to le ld (by decide) (by decide) ht) (cwV 5 hts gX1_chargeAhead_X1_chargeFrom rfl rfl rfl (by decide +kernel) ⟨by decide, by decide⟩) hK hP rfl rfl rfl hl.1 rfl (Nat.le_of_ble_eq_true rfl) dX1_chargeAhead_9 ⟨by decide, by decide⟩ ?_
  subst hex
  exact hret _ _ dX1_chargeAhead_12

def rX1_daysLasted : Room := { frames := 2, cells := 0, slots := 0, locals := 43 }
def sX1_daysLasted_L7 (sh : Nat → Int32) (wa : Nat → Int32) (pl : Int32) (lk : Int32) (ld : Int32) : Nat → Int32 → Nat → Int32
  | 0, lf, k => 0
  | n + 1, lf, k => (if 400 ≤ (nI k) then 400 else (if 0 ≤ (sX1_chargeBehind lf (sX1_shareOn sh wa pl (nI k)) lk ld) then sX1_daysLasted_L7 sh wa pl lk ld n (sX1_chargeBehind lf (sX1_shareOn sh wa pl (nI k)) lk ld) (k + 1) else (nI k)))
def sX1_daysLasted (sh : Nat → Int32) (wa : Nat → Int32) (pl : Int32) (rm : Int32) (lk : Int32) (ld : Int32) : Int32 := sX1_daysLasted_L7 sh wa pl lk ld 401 (sX1_chargeAtFirst rm) 0
set_option maxHeartbeats 4000000 in
set_option maxRecDepth 100000 in
theorem kX1_daysLasted (l : Launch) (dC : Nat → ClassId) (dI : Nat → Nat → Nat) (cI cQ cZ : ClassId) (a0 : Nat) (a1 : Nat) (a2 : Nat) (sh : Nat → Int32) (wa : Nat → Int32) (pl : Int32) (rm : Int32) (lk : Int32) (br : Int32) (ld : Int32) : Met l yX1_daysLasted wsX1_daysLasted rX1_daysLasted (va_Pc [.ref a0, .int ld] (cd_rp dC dI cI cQ cZ (wCl cI a0 a1 a2 sh wa pl rm lk br))) (vp_Si (fun r => r = sX1_daysLasted sh wa pl rm lk ld)) 0 0 (fun _ => False) := by
  have hiX1 : ∀ w ∈ u_ws RX1 TX1 6, w ∈ wsX1_daysLasted := by decide +kernel
  generalize hex : sX1_daysLasted sh wa pl rm lk ld = ex
  unfold sX1_daysLasted at hex
  refine cd_mRi [.ref a0, .int ld] (by decide) rfl (Nat.le_of_ble_eq_true rfl) ?_
  intro Q p e s m args below meth c ls hx hb hml hown hts hret ⟨hK, hP⟩ hl
  have hl : lv_has ls 4 [(0, .ref a0), (1, .int ld)] := hl
  refine lv_aload_n hx hb dX1_daysLasted_0 rfl (lv_at hl 0 rfl) ?_
  refine cd_rV (As := []) (b := a0) (ci := 1) (q := (RX1, TX1, 6)) (rest := []) ⟨hx, hb, hml, hown, hts⟩ (kX1_chargeAtFirst l dC dI cI cQ cZ a0 a1 a2 sh wa pl rm lk br) (cwV 0 hts gX1_daysLasted_X1_chargeAtFirst rfl rfl rfl (by decide +kernel) ⟨by decide, by decide⟩) hK hP rfl rfl rfl hl.1 rfl (Nat.le_of_ble_eq_true rfl) dX1_daysLasted_1 ⟨by decide, by decide⟩ ?_
  refine lv_istore_n (lv' := [(2, .int (sX1_chargeAtFirst rm)), (0, .ref a0), (1, .int ld)]) hx hb dX1_daysLasted_4 rfl hl (by decide) rfl (fun ls hl => ?_)
  refine lv_iconst (v := 0) hx hb dX1_daysLasted_5 (by decide) ?_
  refine lv_istore_n (lv' := [(3, .int 0), (2, .int (sX1_chargeAtFirst rm)), (0, .ref a0), (1, .int ld)]) hx hb dX1_daysLasted_6 rfl hl (by decide) rfl (fun ls hl => ?_)
  have L7 : ∀ (n : Nat) (lf : Int32) (k : Nat), (k ≤ 400) → 400 - k < n → sX1_daysLasted_L7 sh wa pl lk ld n lf k = ex → ∀ (ls : Array Slot), lv_has ls 4 [(3, .int (nI k)), (2, .int lf), (0, .ref a0), (1, .int ld)] → W p l e rX1_daysLasted s m args below meth c s.heap [] 0 0 Q (F0 m 7 ls []) := by
    intro n
    induction n with
    | zero => intro lf k hk hm; exact absurd hm (Nat.not_lt_zero _)
    | succ n ih =>
      intro lf k hk hm hex ls hl
      rw [sX1_daysLasted_L7] at hex
      refine lv_iload_n hx hb dX1_daysLasted_7 rfl (lv_at hl 0 rfl) ?_
      refine lv_sipush (v := 400) hx hb dX1_daysLasted_8 (by decide) ?_
      refine lv_icmp_ge (tgt := 42) hx hb dX1_daysLasted_11 (by decide) (fun c_1 => ?_) (fun c_1 => ?_)
      · rw [if_pos c_1] at hex
        try have n_1 : 400 ≤ k := (nI_leI (a := 400) (b := k) (by omega) (by omega)).mp c_1
        refine lv_sipush (v := 400) hx hb dX1_daysLasted_42 (by decide) ?_
        subst hex
        exact hret _ _ dX1_daysLasted_45
      · rw [if_neg c_1] at hex
        try have n_1 : ¬ 400 ≤ k := fun h9 => c_1 ((nI_leI (a := 400) (b := k) (by omega) (by omega)).mpr h9)
        refine lv_aload_n hx hb dX1_daysLasted_14 rfl (lv_at hl 2 rfl) ?_
        refine lv_iload_n hx hb dX1_daysLasted_15 rfl (lv_at hl 1 rfl) ?_
        refine lv_aload_n hx hb dX1_daysLasted_16 rfl (lv_at hl 2 rfl) ?_
        refine lv_iload_n hx hb dX1_daysLasted_17 rfl (lv_at hl 0 rfl) ?_
        refine cd_rV (As := [.int (nI k)]) (b := a0) (ci := 1) (q := (RX1, TX1, 6)) (rest := [.int lf, .ref a0]) ⟨hx, hb, hml, hown, hts⟩ (kX1_shareOn l dC dI cI cQ cZ a0 a1 a2 sh wa pl rm lk br (nI k)) (cwV 1 hts gX1_daysLasted_X1_shareOn rfl rfl rfl (by decide +kernel) ⟨by decide, by decide⟩) hK hP rfl rfl rfl hl.1 rfl (Nat.le_of_ble_eq_true rfl) dX1_daysLasted_18 ⟨by decide, by decide⟩ ?_
        refine lv_aload_n hx hb dX1_daysLasted_21 rfl (lv_at hl 2 rfl) ?_
        refine va_get (D := (dC, dI)) (ci := 1) (v := .int lk) (C := RX1) (T := TX1) (N := 6) hx hb hts hiX1 hown hK.1 hP 0 rfl rfl 4 (by decide) (hts (.fieldLink RX1 25 "CellDays$Cell" "leak" "I") (by decide +kernel)) (fun _ h9 => h9) rfl dX1_daysLasted_22 ?_
        refine lv_iload_n hx hb dX1_daysLasted_25 rfl (lv_at hl 3 rfl) ?_
        refine cd_rV (As := [.int lf, .int (sX1_shareOn sh wa pl (nI k)), .int lk, .int ld]) (b := a0) (ci := 1) (q := (RX1, TX1, 6)) (rest := []) ⟨hx, hb, hml, hown, hts⟩ (kX1_chargeBehind l dC dI cI cQ cZ a0 a1 a2 sh wa pl rm lk br lf (sX1_shareOn sh wa pl (nI k)) lk ld) (cwV 4 hts gX1_daysLasted_X1_chargeBehind rfl rfl rfl (by decide +kernel) ⟨by decide, by decide⟩) hK hP rfl rfl rfl hl.1 rfl (Nat.le_of_ble_eq_true rfl) dX1_daysLasted_26 ⟨by decide, by decide⟩ ?_
        refine lv_istore_n (lv' := [(2, .int (sX1_chargeBehind lf (sX1_shareOn sh wa pl (nI k)) lk ld)), (3, .int (nI k)), (0, .ref a0), (1, .int ld)]) hx hb dX1_daysLasted_29 rfl hl (by decide) rfl (fun ls hl => ?_)
        refine lv_iload_n hx hb dX1_daysLasted_30 rfl (lv_at hl 0 rfl) ?_
        refine lv_if_ge (tgt := 36) hx hb dX1_daysLasted_31 (by decide) (fun c_2 => ?_) (fun c_2 => ?_)
        · rw [if_pos c_2] at hex
          refine lv_iinc (v := nI (k + 1)) (lv' := [(3, .int (nI (k + 1))), (2, .int (sX1_chargeBehind lf (sX1_shareOn sh wa pl (nI k)) lk ld)), (0, .ref a0), (1, .int ld)]) hx hb dX1_daysLasted_36 hl (k := 1) rfl (nI_1 k) (by decide) rfl (fun ls hl => ?_)
          refine lv_goto (tgt := 7) hx hb dX1_daysLasted_39 (by decide) ?_
          exact ih (sX1_chargeBehind lf (sX1_shareOn sh wa pl (nI k)) lk ld) (k + 1) (by omega) (by omega) hex _ (lv_sub hl [0, 1, 2, 3] rfl)
        · rw [if_neg c_2] at hex
          refine lv_iload_n hx hb dX1_daysLasted_34 rfl (lv_at hl 1 rfl) ?_
          subst hex
          exact hret _ _ dX1_daysLasted_35
  exact L7 401 (sX1_chargeAtFirst rm) 0 (by decide) (by decide) hex _ (lv_sub hl [0, 1, 2, 3] rfl)

def rX1_levelOf : Room := { frames := 1, cells := 0, slots := 0, locals := 21 }
def sX1_levelOf (rm : Int32) (cg : Int32) : Int32 := (if cg < 0 then 0 else (if 0 < (sX1_chargeAtFirst rm) then (if ((10 * cg) / (sX1_chargeAtFirst rm)) < 9 then ((10 * cg) / (sX1_chargeAtFirst rm)) else 9) else 0))
set_option maxHeartbeats 4000000 in
set_option maxRecDepth 100000 in
theorem kX1_levelOf (l : Launch) (dC : Nat → ClassId) (dI : Nat → Nat → Nat) (cI cQ cZ : ClassId) (a0 : Nat) (a1 : Nat) (a2 : Nat) (sh : Nat → Int32) (wa : Nat → Int32) (pl : Int32) (rm : Int32) (lk : Int32) (br : Int32) (cg : Int32) : Met l yX1_levelOf wsX1_levelOf rX1_levelOf (va_Pc [.ref a0, .int cg] (cd_rp dC dI cI cQ cZ (wCl cI a0 a1 a2 sh wa pl rm lk br))) (vp_Si (fun r => r = sX1_levelOf rm cg)) 0 0 (fun _ => False) := by
  generalize hex : sX1_levelOf rm cg = ex
  unfold sX1_levelOf at hex
  refine cd_mRi [.ref a0, .int cg] (by decide) rfl (Nat.le_of_ble_eq_true rfl) ?_
  intro Q p e s m args below meth c ls hx hb hml hown hts hret ⟨hK, hP⟩ hl
  have hl : lv_has ls 3 [(0, .ref a0), (1, .int cg)] := hl
  refine lv_aload_n hx hb dX1_levelOf_0 rfl (lv_at hl 0 rfl) ?_
  refine cd_rV (As := []) (b := a0) (ci := 1) (q := (RX1, TX1, 6)) (rest := []) ⟨hx, hb, hml, hown, hts⟩ (kX1_chargeAtFirst l dC dI cI cQ cZ a0 a1 a2 sh wa pl rm lk br) (cwV 0 hts gX1_levelOf_X1_chargeAtFirst rfl rfl rfl (by decide +kernel) ⟨by decide, by decide⟩) hK hP rfl rfl rfl hl.1 rfl (Nat.le_of_ble_eq_true rfl) dX1_levelOf_1 ⟨by decide, by decide⟩ ?_
  refine lv_istore_n (lv' := [(2, .int (sX1_chargeAtFirst rm)), (0, .ref a0), (1, .int cg)]) hx hb dX1_levelOf_4 rfl hl (by decide) rfl (fun ls hl => ?_)
  refine lv_iload_n hx hb dX1_levelOf_5 rfl (lv_at hl 2 rfl) ?_
  refine lv_if_lt (tgt := 13) hx hb dX1_levelOf_6 (by decide) (fun c_1 => ?_) (fun c_1 => ?_)
  · rw [if_pos c_1] at hex
    refine lv_iconst (v := 0) hx hb dX1_levelOf_13 (by decide) ?_
    refine lv_goto (tgt := 28) hx hb dX1_levelOf_14 (by decide) ?_
    subst hex
    exact hret _ _ dX1_levelOf_28
  · rw [if_neg c_1] at hex
    refine lv_iload_n hx hb dX1_levelOf_9 rfl (lv_at hl 0 rfl) ?_
    refine lv_if_gt (tgt := 17) hx hb dX1_levelOf_10 (by decide) (fun c_2 => ?_) (fun c_2 => ?_)
    · rw [if_pos c_2] at hex
      refine lv_bipush (v := 9) hx hb dX1_levelOf_17 (by decide) ?_
      refine lv_bipush (v := 10) hx hb dX1_levelOf_19 (by decide) ?_
      refine lv_iload_n hx hb dX1_levelOf_21 rfl (lv_at hl 2 rfl) ?_
      refine lv_imul hx hb dX1_levelOf_22 ?_
      refine lv_iload_n hx hb dX1_levelOf_23 rfl (lv_at hl 0 rfl) ?_
      refine lv_idiv hx hb dX1_levelOf_24 (cd_ne0 c_2) ?_
      refine va_mmin hx hb (by rw [hml]; exact hl.1.symm) hown (hts (.methodLink RX1 55 Lib.Math.min.name) (by decide +kernel)) (hts (.static Lib.Math.min.name) (by decide +kernel)) (hts (.initialized "java/lang/Math") (by decide +kernel)) (hts (.code Lib.Math.min.name Lib.Math.min.code 2 (some .int)) (by decide +kernel)) (by decide) (by decide) (by decide) (by decide) dX1_levelOf_25 ?_
      subst hex
      exact hret _ _ dX1_levelOf_28
    · rw [if_neg c_2] at hex
      refine lv_iconst (v := 0) hx hb dX1_levelOf_13 (by decide) ?_
      refine lv_goto (tgt := 28) hx hb dX1_levelOf_14 (by decide) ?_
      subst hex
      exact hret _ _ dX1_levelOf_28
end
section
def rX3_drainBy : Room := { frames := 1, cells := 0, slots := 0, locals := 21 }
def sX3_drainBy (d : DT) (t : Int32) (br : Int32) : Int32 := (if d.1 = 0 then (if d.1 = 2 then ((d.2.1 * d.2.2.1) * (if d.2.2.2.2.1 < t then d.2.2.2.2.1 else t)) else (d.2.1 * d.2.2.1)) else (if d.1 = 2 then (((d.2.1 * d.2.2.1) + (d.2.2.2.1 + (if 0 < (d.2.2.2.1 - br) then (d.2.2.2.1 - br) else 0))) * (if d.2.2.2.2.1 < t then d.2.2.2.2.1 else t)) else ((d.2.1 * d.2.2.1) + (d.2.2.2.1 + (if 0 < (d.2.2.2.1 - br) then (d.2.2.2.1 - br) else 0)))))
set_option maxHeartbeats 4000000 in
set_option maxRecDepth 100000 in
theorem kX3_drainBy (l : Launch) (dC : Nat → ClassId) (dI : Nat → Nat → Nat) (cI cQ cZ : ClassId) (a : Nat) (d : DT) (t : Int32) (br : Int32) : Met l yX3_drainBy wsX3_drainBy rX3_drainBy (va_Pc [.ref a, .int t, .int br] (cd_rp dC dI cI cQ cZ (wDu a d))) (vp_Si (fun r => r = sX3_drainBy d t br)) 0 0 (fun _ => False) := by
  have hiX3 : ∀ w ∈ u_ws RX3 TX3 7, w ∈ wsX3_drainBy := by decide +kernel
  generalize hex : sX3_drainBy d t br = ex
  unfold sX3_drainBy at hex
  refine cd_mRi [.ref a, .int t, .int br] (by decide) rfl (Nat.le_of_ble_eq_true rfl) ?_
  intro Q p e s m args below meth c ls hx hb hml hown hts hret ⟨hK, hP⟩ hl
  have hl : lv_has ls 4 [(0, .ref a), (1, .int t), (2, .int br)] := hl
  refine lv_aload_n hx hb dX3_drainBy_0 rfl (lv_at hl 0 rfl) ?_
  refine va_get (D := (dC, dI)) (ci := 3) (v := .int d.2.1) (C := RX3) (T := TX3) (N := 7) hx hb hts hiX3 hown hK.1 hP 0 rfl rfl 1 (by decide) (hts (.fieldLink RX3 15 "CellDays$Duty" "load" "I") (by decide +kernel)) (fun _ h9 => h9) rfl dX3_drainBy_1 ?_
  refine lv_aload_n hx hb dX3_drainBy_4 rfl (lv_at hl 0 rfl) ?_
  refine va_get (D := (dC, dI)) (ci := 3) (v := .int d.2.2.1) (C := RX3) (T := TX3) (N := 7) hx hb hts hiX3 hown hK.1 hP 0 rfl rfl 2 (by decide) (hts (.fieldLink RX3 18 "CellDays$Duty" "times" "I") (by decide +kernel)) (fun _ h9 => h9) rfl dX3_drainBy_5 ?_
  refine lv_imul hx hb dX3_drainBy_8 ?_
  refine lv_istore_n (lv' := [(3, .int (d.2.1 * d.2.2.1)), (0, .ref a), (1, .int t), (2, .int br)]) hx hb dX3_drainBy_9 rfl hl (by decide) rfl (fun ls hl => ?_)
  refine lv_aload_n hx hb dX3_drainBy_10 rfl (lv_at hl 1 rfl) ?_
  refine va_get (D := (dC, dI)) (ci := 3) (v := .int d.1) (C := RX3) (T := TX3) (N := 7) hx hb hts hiX3 hown hK.1 hP 0 rfl rfl 0 (by decide) (hts (.fieldLink RX3 9 "CellDays$Duty" "kind" "I") (by decide +kernel)) (fun _ h9 => h9) rfl dX3_drainBy_11 ?_
  refine lv_if_eq (tgt := 35) hx hb dX3_drainBy_14 (by decide) (fun c_1 => ?_) (fun c_1 => ?_)
  · rw [if_pos c_1] at hex
    refine lv_aload_n hx hb dX3_drainBy_35 rfl (lv_at hl 1 rfl) ?_
    refine va_get (D := (dC, dI)) (ci := 3) (v := .int d.1) (C := RX3) (T := TX3) (N := 7) hx hb hts hiX3 hown hK.1 hP 0 rfl rfl 0 (by decide) (hts (.fieldLink RX3 9 "CellDays$Duty" "kind" "I") (by decide +kernel)) (fun _ h9 => h9) rfl dX3_drainBy_36 ?_
    refine lv_iconst (v := 2) hx hb dX3_drainBy_39 (by decide) ?_
    refine lv_icmp_ne (tgt := 56) hx hb dX3_drainBy_40 (by decide) (fun c_2 => ?_) (fun c_2 => ?_)
    · rw [if_neg c_2] at hex
      refine lv_iload_n hx hb dX3_drainBy_56 rfl (lv_at hl 0 rfl) ?_
      subst hex
      exact hret _ _ dX3_drainBy_57
    · rw [if_pos c_2] at hex
      refine lv_iload_n hx hb dX3_drainBy_43 rfl (lv_at hl 0 rfl) ?_
      refine lv_iload_n hx hb dX3_drainBy_44 rfl (lv_at hl 2 rfl) ?_
      refine lv_aload_n hx hb dX3_drainBy_45 rfl (lv_at hl 1 rfl) ?_
      refine va_get (D := (dC, dI)) (ci := 3) (v := .int d.2.2.2.2.1) (C := RX3) (T := TX3) (N := 7) hx hb hts hiX3 hown hK.1 hP 0 rfl rfl 4 (by decide) (hts (.fieldLink RX3 24 "CellDays$Duty" "tries" "I") (by decide +kernel)) (fun _ h9 => h9) rfl dX3_drainBy_46 ?_
      refine va_mmin hx hb (by rw [hml]; exact hl.1.symm) hown (hts (.methodLink RX3 40 Lib.Math.min.name) (by decide +kernel)) (hts (.static Lib.Math.min.name) (by decide +kernel)) (hts (.initialized "java/lang/Math") (by decide +kernel)) (hts (.code Lib.Math.min.name Lib.Math.min.code 2 (some .int)) (by decide +kernel)) (by decide) (Nat.le_of_ble_eq_true rfl) (by decide) (by decide) dX3_drainBy_49 ?_
      refine lv_imul hx hb dX3_drainBy_52 ?_
      refine lv_goto (tgt := 57) hx hb dX3_drainBy_53 (by decide) ?_
      subst hex
      exact hret _ _ dX3_drainBy_57
  · rw [if_neg c_1] at hex
    refine lv_iload_n hx hb dX3_drainBy_17 rfl (lv_at hl 0 rfl) ?_
    refine lv_aload_n hx hb dX3_drainBy_18 rfl (lv_at hl 1 rfl) ?_
    refine va_get (D := (dC, dI)) (ci := 3) (v := .int d.2.2.2.1) (C := RX3) (T := TX3) (N := 7) hx hb hts hiX3 hown hK.1 hP 0 rfl rfl 3 (by decide) (hts (.fieldLink RX3 21 "CellDays$Duty" "peak" "I") (by decide +kernel)) (fun _ h9 => h9) rfl dX3_drainBy_19 ?_
    refine lv_iconst (v := 0) hx hb dX3_drainBy_22 (by decide) ?_
    refine lv_aload_n hx hb dX3_drainBy_23 rfl (lv_at hl 1 rfl) ?_
    refine va_get (D := (dC, dI)) (ci := 3) (v := .int d.2.2.2.1) (C := RX3) (T := TX3) (N := 7) hx hb hts hiX3 hown hK.1 hP 0 rfl rfl 3 (by decide) (hts (.fieldLink RX3 21 "CellDays$Duty" "peak" "I") (by decide +kernel)) (fun _ h9 => h9) rfl dX3_drainBy_24 ?_
    refine lv_iload_n hx hb dX3_drainBy_27 rfl (lv_at hl 3 rfl) ?_
    refine lv_isub hx hb dX3_drainBy_28 ?_
    refine va_mmax hx hb (by rw [hml]; exact hl.1.symm) hown (hts (.methodLink RX3 34 Lib.Math.max.name) (by decide +kernel)) (hts (.static Lib.Math.max.name) (by decide +kernel)) (hts (.initialized "java/lang/Math") (by decide +kernel)) (hts (.code Lib.Math.max.name Lib.Math.max.code 2 (some .int)) (by decide +kernel)) (by decide) (Nat.le_of_ble_eq_true rfl) (by decide) (by decide) dX3_drainBy_29 ?_
    refine lv_iadd hx hb dX3_drainBy_32 ?_
    refine lv_iadd hx hb dX3_drainBy_33 ?_
    refine lv_istore_n (lv' := [(3, .int ((d.2.1 * d.2.2.1) + (d.2.2.2.1 + (if 0 < (d.2.2.2.1 - br) then (d.2.2.2.1 - br) else 0)))), (0, .ref a), (1, .int t), (2, .int br)]) hx hb dX3_drainBy_34 rfl hl (by decide) rfl (fun ls hl => ?_)
    refine lv_aload_n hx hb dX3_drainBy_35 rfl (lv_at hl 1 rfl) ?_
    refine va_get (D := (dC, dI)) (ci := 3) (v := .int d.1) (C := RX3) (T := TX3) (N := 7) hx hb hts hiX3 hown hK.1 hP 0 rfl rfl 0 (by decide) (hts (.fieldLink RX3 9 "CellDays$Duty" "kind" "I") (by decide +kernel)) (fun _ h9 => h9) rfl dX3_drainBy_36 ?_
    refine lv_iconst (v := 2) hx hb dX3_drainBy_39 (by decide) ?_
    refine lv_icmp_ne (tgt := 56) hx hb dX3_drainBy_40 (by decide) (fun c_3 => ?_) (fun c_3 => ?_)
    · rw [if_neg c_3] at hex
      refine lv_iload_n hx hb dX3_drainBy_56 rfl (lv_at hl 0 rfl) ?_
      subst hex
      exact hret _ _ dX3_drainBy_57
    · rw [if_pos c_3] at hex
      refine lv_iload_n hx hb dX3_drainBy_43 rfl (lv_at hl 0 rfl) ?_
      refine lv_iload_n hx hb dX3_drainBy_44 rfl (lv_at hl 2 rfl) ?_
      refine lv_aload_n hx hb dX3_drainBy_45 rfl (lv_at hl 1 rfl) ?_
      refine va_get (D := (dC, dI)) (ci := 3) (v := .int d.2.2.2.2.1) (C := RX3) (T := TX3) (N := 7) hx hb hts hiX3 hown hK.1 hP 0 rfl rfl 4 (by decide) (hts (.fieldLink RX3 24 "CellDays$Duty" "tries" "I") (by decide +kernel)) (fun _ h9 => h9) rfl dX3_drainBy_46 ?_
      refine va_mmin hx hb (by rw [hml]; exact hl.1.symm) hown (hts (.methodLink RX3 40 Lib.Math.min.name) (by decide +kernel)) (hts (.static Lib.Math.min.name) (by decide +kernel)) (hts (.initialized "java/lang/Math") (by decide +kernel)) (hts (.code Lib.Math.min.name Lib.Math.min.code 2 (some .int)) (by decide +kernel)) (by decide) (Nat.le_of_ble_eq_true rfl) (by decide) (by decide) dX3_drainBy_49 ?_
      refine lv_imul hx hb dX3_drainBy_52 ?_
      refine lv_goto (tgt := 57) hx hb dX3_drainBy_53 (by decide) ?_
      subst hex
      exact hret _ _ dX3_drainBy_57

def rX3_traceOfOneAsk : Room := { frames := 0, cells := 0, slots := 0, locals := 0 }
def sX3_traceOfOneAsk (d : DT) : Int32 := (if d.1 = 0 then 1 else (if d.1 = 1 then 11 else 111))
set_option maxHeartbeats 4000000 in
set_option maxRecDepth 100000 in
theorem kX3_traceOfOneAsk (l : Launch) (dC : Nat → ClassId) (dI : Nat → Nat → Nat) (cI cQ cZ : ClassId) (a : Nat) (d : DT) : Met l yX3_traceOfOneAsk wsX3_traceOfOneAsk rX3_traceOfOneAsk (va_Pc [.ref a] (cd_rp dC dI cI cQ cZ (wDu a d))) (vp_Si (fun r => r = sX3_traceOfOneAsk d)) 0 0 (fun _ => False) := by
  have hiX3 : ∀ w ∈ u_ws RX3 TX3 7, w ∈ wsX3_traceOfOneAsk := by decide +kernel
  generalize hex : sX3_traceOfOneAsk d = ex
  unfold sX3_traceOfOneAsk at hex
  refine cd_mRi [.ref a] (by decide) rfl (Nat.le_of_ble_eq_true rfl) ?_
  intro Q p e s m args below meth c ls hx hb hml hown hts hret ⟨hK, hP⟩ hl
  have hl : lv_has ls 1 [(0, .ref a)] := hl
  refine lv_aload_n hx hb dX3_traceOfOneAsk_0 rfl (lv_at hl 0 rfl) ?_
  refine va_get (D := (dC, dI)) (ci := 3) (v := .int d.1) (C := RX3) (T := TX3) (N := 7) hx hb hts hiX3 hown hK.1 hP 0 rfl rfl 0 (by decide) (hts (.fieldLink RX3 9 "CellDays$Duty" "kind" "I") (by decide +kernel)) (fun _ h9 => h9) rfl dX3_traceOfOneAsk_1 ?_
  by_cases c_1 : d.1 = 0
  · rw [if_pos c_1] at hex
    refine lv_lookup (tgt := 32) hx hb dX3_traceOfOneAsk_4 (by decide) (off := 28) (by rw [c_1] <;> decide +kernel) (by decide) ?_
    refine lv_iconst (v := 1) hx hb dX3_traceOfOneAsk_32 (by decide) ?_
    subst hex
    exact hret _ _ dX3_traceOfOneAsk_33
  · rw [if_neg c_1] at hex
    by_cases c_2 : d.1 = 1
    · rw [if_pos c_2] at hex
      refine lv_lookup (tgt := 34) hx hb dX3_traceOfOneAsk_4 (by decide) (off := 30) (by rw [c_2] <;> decide +kernel) (by decide) ?_
      refine lv_bipush (v := 11) hx hb dX3_traceOfOneAsk_34 (by decide) ?_
      subst hex
      exact hret _ _ dX3_traceOfOneAsk_36
    · rw [if_neg c_2] at hex
      refine lv_lookup (tgt := 37) hx hb dX3_traceOfOneAsk_4 (by decide) (off := 33) (by rw [lv_osw c_1 (a := 0) (by decide)]; rw [lv_osw c_2 (a := 1) (by decide)]; rfl) (by decide) ?_
      refine lv_bipush (v := 111) hx hb dX3_traceOfOneAsk_37 (by decide) ?_
      subst hex
      exact hret _ _ dX3_traceOfOneAsk_39

def rX2_isFull : Room := { frames := 0, cells := 0, slots := 0, locals := 0 }
def sX2_isFull (dn : Nat) : Int32 := (if (nI dn) < 8 then 0 else 1)
set_option maxHeartbeats 4000000 in
set_option maxRecDepth 100000 in
theorem kX2_isFull (l : Launch) (dC : Nat → ClassId) (dI : Nat → Nat → Nat) (cI cQ cZ : ClassId) (b0 : Nat) (b1 : Nat) (row : Nat → Option Nat) (dn : Nat) : Met l yX2_isFull wsX2_isFull rX2_isFull (va_Pc [.ref b0] (cd_rp dC dI cI cQ cZ (wDs cQ b0 b1 row dn))) (vp_Si (fun r => r = sX2_isFull dn)) 0 0 (fun _ => False) := by
  have hiX2 : ∀ w ∈ u_ws RX2 TX2 2, w ∈ wsX2_isFull := by decide +kernel
  generalize hex : sX2_isFull dn = ex
  unfold sX2_isFull at hex
  refine cd_mRz [.ref b0] (by decide) rfl (Nat.le_of_ble_eq_true rfl) ?_
  intro Q p e s m args below meth c ls hx hb hml hown hts hret ⟨hK, hP⟩ hl
  have hl : lv_has ls 1 [(0, .ref b0)] := hl
  refine lv_aload_n hx hb dX2_isFull_0 rfl (lv_at hl 0 rfl) ?_
  refine va_get (D := (dC, dI)) (ci := 2) (v := .int (nI dn)) (C := RX2) (T := TX2) (N := 2) hx hb hts hiX2 hown hK.1 hP 0 rfl rfl 1 (by decide) (hts (.fieldLink RX2 15 "CellDays$Duties" "size" "I") (by decide +kernel)) (fun _ h9 => h9) rfl dX2_isFull_1 ?_
  refine lv_aload_n hx hb dX2_isFull_4 rfl (lv_at hl 0 rfl) ?_
  refine va_get (D := (dC, dI)) (ci := 2) (v := .ref b1) (C := RX2) (T := TX2) (N := 2) hx hb hts hiX2 hown hK.1 hP 0 rfl rfl 0 (by decide) (hts (.fieldLink RX2 9 "CellDays$Duties" "row" "[LCellDays$Duty;") (by decide +kernel)) (fun _ h9 => h9) rfl dX2_isFull_5 ?_
  refine va_alen (v := 8) hx hb hK.1 hP 1 1 rfl rfl rfl dX2_isFull_8 ?_
  refine lv_icmp_lt (tgt := 16) hx hb dX2_isFull_9 (by decide) (fun c_1 => ?_) (fun c_1 => ?_)
  · rw [if_pos c_1] at hex
    try have n_1 : dn < 8 := (nI_ltI (a := dn) (b := 8) (by omega) (by omega)).mp c_1
    refine lv_iconst (v := 0) hx hb dX2_isFull_16 (by decide) ?_
    subst hex
    exact hret _ _ rfl dX2_isFull_17
  · rw [if_neg c_1] at hex
    try have n_1 : ¬ dn < 8 := fun h9 => c_1 ((nI_ltI (a := dn) (b := 8) (by omega) (by omega)).mpr h9)
    refine lv_iconst (v := 1) hx hb dX2_isFull_12 (by decide) ?_
    refine lv_goto (tgt := 17) hx hb dX2_isFull_13 (by decide) ?_
    subst hex
    exact hret _ _ rfl dX2_isFull_17

def rX2_numbered : Room := { frames := 0, cells := 0, slots := 0, locals := 0 }
def sX2_numbered (row : Nat → Option Nat) (dn : Nat) (i : Int32) : Option Nat := (if i < 0 then none else (if (nI dn) ≤ i then none else (if 8 ≤ i then none else (row i.toNatClampNeg))))
set_option maxHeartbeats 4000000 in
set_option maxRecDepth 100000 in
theorem kX2_numbered (l : Launch) (dC : Nat → ClassId) (dI : Nat → Nat → Nat) (cI cQ cZ : ClassId) (b0 : Nat) (b1 : Nat) (row : Nat → Option Nat) (dn : Nat) (i : Int32) : Met l yX2_numbered wsX2_numbered rX2_numbered (va_Pc [.ref b0, .int i] (cd_rp dC dI cI cQ cZ (wDs cQ b0 b1 row dn))) (va_Sq (fun r => r = sX2_numbered row dn i)) 0 0 (fun _ => False) := by
  have hiX2 : ∀ w ∈ u_ws RX2 TX2 2, w ∈ wsX2_numbered := by decide +kernel
  generalize hex : sX2_numbered row dn i = ex
  unfold sX2_numbered at hex
  refine cd_mRq [.ref b0, .int i] (by decide) rfl (Nat.le_of_ble_eq_true rfl) ?_
  intro Q p e s m args below meth c ls hx hb hml hown hts hret ⟨hK, hP⟩ hl
  have hl : lv_has ls 2 [(0, .ref b0), (1, .int i)] := hl
  refine lv_iload_n hx hb dX2_numbered_0 rfl (lv_at hl 1 rfl) ?_
  refine lv_if_lt (tgt := 30) hx hb dX2_numbered_1 (by decide) (fun c_1 => ?_) (fun c_1 => ?_)
  · rw [if_pos c_1] at hex
    refine lv_null hx hb dX2_numbered_30 ?_
    subst hex
    exact hret _ _ dX2_numbered_31
  · rw [if_neg c_1] at hex
    refine lv_iload_n hx hb dX2_numbered_4 rfl (lv_at hl 1 rfl) ?_
    refine lv_aload_n hx hb dX2_numbered_5 rfl (lv_at hl 0 rfl) ?_
    refine va_get (D := (dC, dI)) (ci := 2) (v := .int (nI dn)) (C := RX2) (T := TX2) (N := 2) hx hb hts hiX2 hown hK.1 hP 0 rfl rfl 1 (by decide) (hts (.fieldLink RX2 15 "CellDays$Duties" "size" "I") (by decide +kernel)) (fun _ h9 => h9) rfl dX2_numbered_6 ?_
    refine lv_icmp_ge (tgt := 30) hx hb dX2_numbered_9 (by decide) (fun c_2 => ?_) (fun c_2 => ?_)
    · rw [if_pos c_2] at hex
      refine lv_null hx hb dX2_numbered_30 ?_
      subst hex
      exact hret _ _ dX2_numbered_31
    · rw [if_neg c_2] at hex
      refine lv_iload_n hx hb dX2_numbered_12 rfl (lv_at hl 1 rfl) ?_
      refine lv_aload_n hx hb dX2_numbered_13 rfl (lv_at hl 0 rfl) ?_
      refine va_get (D := (dC, dI)) (ci := 2) (v := .ref b1) (C := RX2) (T := TX2) (N := 2) hx hb hts hiX2 hown hK.1 hP 0 rfl rfl 0 (by decide) (hts (.fieldLink RX2 9 "CellDays$Duties" "row" "[LCellDays$Duty;") (by decide +kernel)) (fun _ h9 => h9) rfl dX2_numbered_14 ?_
      refine va_alen (v := 8) hx hb hK.1 hP 1 1 rfl rfl rfl dX2_numbered_17 ?_
      refine lv_icmp_ge (tgt := 30) hx hb dX2_numbered_18 (by decide) (fun c_3 => ?_) (fun c_3 => ?_)
      · rw [if_pos c_3] at hex
        refine lv_null hx hb dX2_numbered_30 ?_
        subst hex
        exact hret _ _ dX2_numbered_31
      · rw [if_neg c_3] at hex
        refine lv_aload_n hx hb dX2_numbered_21 rfl (lv_at hl 0 rfl) ?_
        refine va_get (D := (dC, dI)) (ci := 2) (v := .ref b1) (C := RX2) (T := TX2) (N := 2) hx hb hts hiX2 hown hK.1 hP 0 rfl rfl 0 (by decide) (hts (.fieldLink RX2 9 "CellDays$Duties" "row" "[LCellDays$Duty;") (by decide +kernel)) (fun _ h9 => h9) rfl dX2_numbered_22 ?_
        refine lv_iload_n hx hb dX2_numbered_25 rfl (lv_at hl 1 rfl) ?_
        refine va_aldq hx hb hK.1 hP 1 1 rfl rfl ((cd_in (n := 8) (by decide) c_1 c_3)) dX2_numbered_26 ?_
        refine lv_goto (tgt := 31) hx hb dX2_numbered_27 (by decide) ?_
        subst hex
        exact hret _ _ dX2_numbered_31

def rX2_numberedIn : Room := { frames := 1, cells := 0, slots := 0, locals := 21 }
def sX2_numberedIn (row : Nat → Option Nat) (dn : Nat) (st : Int32) (i : Int32) : Option Nat := (if ((st >>> (i &&& 31)) &&& 1) = 1 then (sX2_numbered row dn i) else none)
set_option maxHeartbeats 4000000 in
set_option maxRecDepth 100000 in
theorem kX2_numberedIn (l : Launch) (dC : Nat → ClassId) (dI : Nat → Nat → Nat) (cI cQ cZ : ClassId) (b0 : Nat) (b1 : Nat) (row : Nat → Option Nat) (dn : Nat) (st : Int32) (i : Int32) : Met l yX2_numberedIn wsX2_numberedIn rX2_numberedIn (va_Pc [.ref b0, .int st, .int i] (cd_rp dC dI cI cQ cZ (wDs cQ b0 b1 row dn))) (va_Sq (fun r => r = sX2_numberedIn row dn st i)) 0 0 (fun _ => False) := by
  generalize hex : sX2_numberedIn row dn st i = ex
  unfold sX2_numberedIn at hex
  refine cd_mRq [.ref b0, .int st, .int i] (by decide) rfl (Nat.le_of_ble_eq_true rfl) ?_
  intro Q p e s m args below meth c ls hx hb hml hown hts hret ⟨hK, hP⟩ hl
  have hl : lv_has ls 3 [(0, .ref b0), (1, .int st), (2, .int i)] := hl
  refine lv_iload_n hx hb dX2_numberedIn_0 rfl (lv_at hl 1 rfl) ?_
  refine lv_iload_n hx hb dX2_numberedIn_1 rfl (lv_at hl 2 rfl) ?_
  refine lv_ishr hx hb dX2_numberedIn_2 ?_
  refine lv_iconst (v := 1) hx hb dX2_numberedIn_3 (by decide) ?_
  refine lv_iand hx hb dX2_numberedIn_4 ?_
  refine lv_iconst (v := 1) hx hb dX2_numberedIn_5 (by decide) ?_
  refine lv_icmp_ne (tgt := 17) hx hb dX2_numberedIn_6 (by decide) (fun c_1 => ?_) (fun c_1 => ?_)
  · rw [if_neg c_1] at hex
    refine lv_null hx hb dX2_numberedIn_17 ?_
    subst hex
    exact hret _ _ dX2_numberedIn_18
  · rw [if_pos c_1] at hex
    refine lv_aload_n hx hb dX2_numberedIn_9 rfl (lv_at hl 0 rfl) ?_
    refine lv_iload_n hx hb dX2_numberedIn_10 rfl (lv_at hl 2 rfl) ?_
    refine cd_rVq (As := [.int i]) (b := b0) (ci := 2) (q := (RX2, TX2, 2)) (rest := []) ⟨hx, hb, hml, hown, hts⟩ (kX2_numbered l dC dI cI cQ cZ b0 b1 row dn i) (cwV 1 hts gX2_numberedIn_X2_numbered rfl rfl rfl (by decide +kernel) ⟨by decide, by decide⟩) hK hP rfl rfl rfl hl.1 rfl (Nat.le_of_ble_eq_true rfl) dX2_numberedIn_11 ⟨by decide, by decide⟩ ?_
    refine lv_goto (tgt := 18) hx hb dX2_numberedIn_14 (by decide) ?_
    subst hex
    exact hret _ _ dX2_numberedIn_18

theorem mem_numbered {row : Nat → Option Nat} {dn : Nat} {i : Int32} {y : Nat} {L : List Nat} (h : ∀ j y, row j = some y → y ∈ L) (hq : sX2_numbered row dn i = some y) : y ∈ L := by
  unfold sX2_numbered at hq
  split at hq
  · cases hq
  · split at hq
    · cases hq
    · split at hq
      · cases hq
      · exact h _ _ hq
theorem mem_numberedIn {row : Nat → Option Nat} {dn : Nat} {st i : Int32} {y : Nat} {L : List Nat} (h : ∀ j y, row j = some y → y ∈ L) (hq : sX2_numberedIn row dn st i = some y) : y ∈ L := by
  unfold sX2_numberedIn at hq
  split at hq
  · exact mem_numbered h hq
  · cases hq

def rX2_add : Room := { frames := 0, cells := 0, slots := 0, locals := 0 }
def sX2_add (row : Nat → Option Nat) (dn : Nat) (x : Nat) : Int32 × (Nat → Option Nat) × (Nat) := (if (nI dn) < 0 then (nI dn, row, dn) else (if 8 ≤ (nI dn) then (nI dn, row, dn) else (nI dn, va_up row dn (some x), dn + 1)))
set_option maxHeartbeats 4000000 in
set_option maxRecDepth 100000 in
theorem kX2_add (l : Launch) (dC : Nat → ClassId) (dI : Nat → Nat → Nat) (cI cQ cZ : ClassId) (b0 : Nat) (b1 : Nat) (row : Nat → Option Nat) (dn : Nat) (L : List Nat) (pd : Nat → DT) (x : Nat) (sz : Nat) (hdn : dn ≤ 8) (hxm : x ∈ L) : Met l yX2_add wsX2_add rX2_add (va_Pc [.ref b0, .ref x] (cd_pre dC dI cI cQ cZ (wDs cQ b0 b1 row dn ++ dpl L pd) sz)) (va_Qi (fun r _ => r = (sX2_add row dn x).1) (cd_post dC dI (wDs cQ b0 b1 row dn ++ dpl L pd) (wDs cQ b0 b1 ((sX2_add row dn x).2.1) ((sX2_add row dn x).2.2) ++ dpl L pd) sz) (va_A (wDs cQ b0 b1 row dn ++ dpl L pd) sz)) 0 0 (va_A (wDs cQ b0 b1 row dn ++ dpl L pd) sz) := by
  have hiX2 : ∀ w ∈ u_ws RX2 TX2 2, w ∈ wsX2_add := by decide +kernel
  generalize hex : sX2_add row dn x = ex
  unfold sX2_add at hex
  refine cd_mMi [.ref b0, .ref x] (by decide) rfl (Nat.le_of_ble_eq_true rfl) ?_
  intro Q A p e s m args below meth c ls hx hb hml hown hts hA hret hK hP hD hS hl
  have hl : lv_has ls 3 [(0, .ref b0), (1, .ref x)] := hl
  refine lv_aload_n hx hb dX2_add_0 rfl (lv_at hl 0 rfl) ?_
  refine va_get (D := (dC, dI)) (ci := 2) (v := .int (nI dn)) (C := RX2) (T := TX2) (N := 2) hx hb hts hiX2 hown hK.1 hP 0 rfl rfl 1 (by decide) (hts (.fieldLink RX2 15 "CellDays$Duties" "size" "I") (by decide +kernel)) (fun _ h9 => h9) rfl dX2_add_1 ?_
  refine lv_istore_n (lv' := [(2, .int (nI dn)), (0, .ref b0), (1, .ref x)]) hx hb dX2_add_4 rfl hl (by decide) rfl (fun ls hl => ?_)
  refine lv_iload_n hx hb dX2_add_5 rfl (lv_at hl 0 rfl) ?_
  refine lv_if_lt (tgt := 32) hx hb dX2_add_6 (by decide) (fun c_1 => ?_) (fun c_1 => ?_)
  · rw [if_pos c_1] at hex
    try have n_1 : dn < 0 := (nI_ltI (a := dn) (b := 0) (by omega) (by omega)).mp c_1
    refine lv_iload_n hx hb dX2_add_32 rfl (lv_at hl 0 rfl) ?_
    subst hex
    exact hret _ _ _ _ dX2_add_33 hP hD hS
  · rw [if_neg c_1] at hex
    try have n_1 : ¬ dn < 0 := fun h9 => c_1 ((nI_ltI (a := dn) (b := 0) (by omega) (by omega)).mpr h9)
    refine lv_iload_n hx hb dX2_add_9 rfl (lv_at hl 0 rfl) ?_
    refine lv_aload_n hx hb dX2_add_10 rfl (lv_at hl 1 rfl) ?_
    refine va_get (D := (dC, dI)) (ci := 2) (v := .ref b1) (C := RX2) (T := TX2) (N := 2) hx hb hts hiX2 hown hK.1 hP 0 rfl rfl 0 (by decide) (hts (.fieldLink RX2 9 "CellDays$Duties" "row" "[LCellDays$Duty;") (by decide +kernel)) (fun _ h9 => h9) rfl dX2_add_11 ?_
    refine va_alen (v := 8) hx hb hK.1 hP 1 1 rfl rfl rfl dX2_add_14 ?_
    refine lv_icmp_ge (tgt := 32) hx hb dX2_add_15 (by decide) (fun c_2 => ?_) (fun c_2 => ?_)
    · rw [if_pos c_2] at hex
      try have n_2 : 8 ≤ dn := (nI_leI (a := 8) (b := dn) (by omega) (by omega)).mp c_2
      refine lv_iload_n hx hb dX2_add_32 rfl (lv_at hl 0 rfl) ?_
      subst hex
      exact hret _ _ _ _ dX2_add_33 hP hD hS
    · rw [if_neg c_2] at hex
      try have n_2 : ¬ 8 ≤ dn := fun h9 => c_2 ((nI_leI (a := 8) (b := dn) (by omega) (by omega)).mpr h9)
      refine lv_aload_n hx hb dX2_add_18 rfl (lv_at hl 1 rfl) ?_
      refine va_get (D := (dC, dI)) (ci := 2) (v := .ref b1) (C := RX2) (T := TX2) (N := 2) hx hb hts hiX2 hown hK.1 hP 0 rfl rfl 0 (by decide) (hts (.fieldLink RX2 9 "CellDays$Duties" "row" "[LCellDays$Duty;") (by decide +kernel)) (fun _ h9 => h9) rfl dX2_add_19 ?_
      refine lv_iload_n hx hb dX2_add_22 rfl (lv_at hl 0 rfl) ?_
      refine lv_aload_n hx hb dX2_add_23 rfl (lv_at hl 2 rfl) ?_
      obtain ⟨k9, hk9⟩ := va_pl_get (X := wDs cQ b0 b1 row dn) (f := fun a => .inr (3, dvl (pd a))) hxm
      refine va_astq (r := (RX3, TX3, 7)) hx hb hK.1 hP hD hS 1 1 k9 3 rfl rfl hk9 rfl (vp_in_nI (n := dn) (N := 8) (by omega) (by omega)) dX2_add_24 (fun H locs hP hD hS => ?_)
      rw [nI_clamp (show dn < 2 ^ 31 by omega)] at hP hD
      have hP : va_P (dC, dI) vwCl (wDs cQ b0 b1 (va_up row dn (some x)) dn ++ dpl L pd) H := hP
      have hD : va_D A (wDs cQ b0 b1 (va_up row dn (some x)) dn ++ dpl L pd) := hD
      refine lv_aload_n hx hb dX2_add_25 rfl (lv_at hl 1 rfl) ?_
      refine lv_iload_n hx hb dX2_add_26 rfl (lv_at hl 0 rfl) ?_
      refine lv_iconst (v := 1) hx hb dX2_add_27 (by decide) ?_
      refine lv_iadd hx hb dX2_add_28 ?_
      refine W.eq (g2 := F0 m 29 ls [.int (nI (dn + 1)), .ref b0]) (by rw [nI_1]) ?_
      refine va_put (D := (dC, dI)) (ci := 2) (v := .int (nI (dn + 1))) (ty := .int) (C := RX2) (T := TX2) (N := 2) hx hb hts hiX2 tyX2 tyX2_ok nmX2 hown hK.1 hP hD hS 0 rfl rfl 1 (by decide) (hts (.fieldLink RX2 15 "CellDays$Duties" "size" "I") (by decide +kernel)) (fun _ h9 => h9) rfl (by decide +kernel) (rfl) (rfl) (Nat.le_of_ble_eq_true rfl) dX2_add_29 (fun H locs hP hD hS => ?_)
      have hP : va_P (dC, dI) vwCl (wDs cQ b0 b1 (va_up row dn (some x)) (dn + 1) ++ dpl L pd) H := hP
      have hD : va_D A (wDs cQ b0 b1 (va_up row dn (some x)) (dn + 1) ++ dpl L pd) := hD
      refine lv_iload_n hx hb dX2_add_32 rfl (lv_at hl 0 rfl) ?_
      subst hex
      exact hret _ _ _ _ dX2_add_33 hP hD hS

def rX2_removeLatest : Room := { frames := 0, cells := 0, slots := 0, locals := 0 }
def sX2_removeLatest (row : Nat → Option Nat) (dn : Nat) : Int32 × (Nat → Option Nat) × (Nat) := (if (nI (dn - 1)) < 0 then (nI dn, row, dn) else (if 8 ≤ (nI (dn - 1)) then (nI dn, row, dn) else (nI (dn - 1), va_up row (dn - 1) none, dn - 1)))
set_option maxHeartbeats 4000000 in
set_option maxRecDepth 100000 in
theorem kX2_removeLatest (l : Launch) (dC : Nat → ClassId) (dI : Nat → Nat → Nat) (cI cQ cZ : ClassId) (b0 : Nat) (b1 : Nat) (row : Nat → Option Nat) (dn : Nat) (sz : Nat) (hdn : dn ≤ 8) (hd0 : 0 < dn) : Met l yX2_removeLatest wsX2_removeLatest rX2_removeLatest (va_Pc [.ref b0] (cd_pre dC dI cI cQ cZ (wDs cQ b0 b1 row dn) sz)) (va_Qi (fun r _ => r = (sX2_removeLatest row dn).1) (cd_post dC dI (wDs cQ b0 b1 row dn) (wDs cQ b0 b1 ((sX2_removeLatest row dn).2.1) ((sX2_removeLatest row dn).2.2)) sz) (va_A (wDs cQ b0 b1 row dn) sz)) 0 0 (va_A (wDs cQ b0 b1 row dn) sz) := by
  have hiX2 : ∀ w ∈ u_ws RX2 TX2 2, w ∈ wsX2_removeLatest := by decide +kernel
  generalize hex : sX2_removeLatest row dn = ex
  unfold sX2_removeLatest at hex
  refine cd_mMi [.ref b0] (by decide) rfl (Nat.le_of_ble_eq_true rfl) ?_
  intro Q A p e s m args below meth c ls hx hb hml hown hts hA hret hK hP hD hS hl
  have hl : lv_has ls 2 [(0, .ref b0)] := hl
  refine lv_aload_n hx hb dX2_removeLatest_0 rfl (lv_at hl 0 rfl) ?_
  refine va_get (D := (dC, dI)) (ci := 2) (v := .int (nI dn)) (C := RX2) (T := TX2) (N := 2) hx hb hts hiX2 hown hK.1 hP 0 rfl rfl 1 (by decide) (hts (.fieldLink RX2 15 "CellDays$Duties" "size" "I") (by decide +kernel)) (fun _ h9 => h9) rfl dX2_removeLatest_1 ?_
  refine lv_iconst (v := 1) hx hb dX2_removeLatest_4 (by decide) ?_
  refine lv_isub hx hb dX2_removeLatest_5 ?_
  refine W.eq (g2 := F0 m 6 ls [.int (nI (dn - 1))]) (by rw [cd_s1 hd0]) ?_
  refine lv_istore_n (lv' := [(1, .int (nI (dn - 1))), (0, .ref b0)]) hx hb dX2_removeLatest_6 rfl hl (by decide) rfl (fun ls hl => ?_)
  refine lv_iload_n hx hb dX2_removeLatest_7 rfl (lv_at hl 0 rfl) ?_
  refine lv_if_lt (tgt := 32) hx hb dX2_removeLatest_8 (by decide) (fun c_1 => ?_) (fun c_1 => ?_)
  · rw [if_pos c_1] at hex
    try have n_1 : (dn - 1) < 0 := (nI_ltI (a := (dn - 1)) (b := 0) (by omega) (by omega)).mp c_1
    refine lv_aload_n hx hb dX2_removeLatest_32 rfl (lv_at hl 1 rfl) ?_
    refine va_get (D := (dC, dI)) (ci := 2) (v := .int (nI dn)) (C := RX2) (T := TX2) (N := 2) hx hb hts hiX2 hown hK.1 hP 0 rfl rfl 1 (by decide) (hts (.fieldLink RX2 15 "CellDays$Duties" "size" "I") (by decide +kernel)) (fun _ h9 => h9) rfl dX2_removeLatest_33 ?_
    subst hex
    exact hret _ _ _ _ dX2_removeLatest_36 hP hD hS
  · rw [if_neg c_1] at hex
    try have n_1 : ¬ (dn - 1) < 0 := fun h9 => c_1 ((nI_ltI (a := (dn - 1)) (b := 0) (by omega) (by omega)).mpr h9)
    refine lv_iload_n hx hb dX2_removeLatest_11 rfl (lv_at hl 0 rfl) ?_
    refine lv_aload_n hx hb dX2_removeLatest_12 rfl (lv_at hl 1 rfl) ?_
    refine va_get (D := (dC, dI)) (ci := 2) (v := .ref b1) (C := RX2) (T := TX2) (N := 2) hx hb hts hiX2 hown hK.1 hP 0 rfl rfl 0 (by decide) (hts (.fieldLink RX2 9 "CellDays$Duties" "row" "[LCellDays$Duty;") (by decide +kernel)) (fun _ h9 => h9) rfl dX2_removeLatest_13 ?_
    refine va_alen (v := 8) hx hb hK.1 hP 1 1 rfl rfl rfl dX2_removeLatest_16 ?_
    refine lv_icmp_ge (tgt := 32) hx hb dX2_removeLatest_17 (by decide) (fun c_2 => ?_) (fun c_2 => ?_)
    · rw [if_pos c_2] at hex
      try have n_2 : 8 ≤ (dn - 1) := (nI_leI (a := 8) (b := (dn - 1)) (by omega) (by omega)).mp c_2
      refine lv_aload_n hx hb dX2_removeLatest_32 rfl (lv_at hl 1 rfl) ?_
      refine va_get (D := (dC, dI)) (ci := 2) (v := .int (nI dn)) (C := RX2) (T := TX2) (N := 2) hx hb hts hiX2 hown hK.1 hP 0 rfl rfl 1 (by decide) (hts (.fieldLink RX2 15 "CellDays$Duties" "size" "I") (by decide +kernel)) (fun _ h9 => h9) rfl dX2_removeLatest_33 ?_
      subst hex
      exact hret _ _ _ _ dX2_removeLatest_36 hP hD hS
    · rw [if_neg c_2] at hex
      try have n_2 : ¬ 8 ≤ (dn - 1) := fun h9 => c_2 ((nI_leI (a := 8) (b := (dn - 1)) (by omega) (by omega)).mpr h9)
      refine lv_aload_n hx hb dX2_removeLatest_20 rfl (lv_at hl 1 rfl) ?_
      refine va_get (D := (dC, dI)) (ci := 2) (v := .ref b1) (C := RX2) (T := TX2) (N := 2) hx hb hts hiX2 hown hK.1 hP 0 rfl rfl 0 (by decide) (hts (.fieldLink RX2 9 "CellDays$Duties" "row" "[LCellDays$Duty;") (by decide +kernel)) (fun _ h9 => h9) rfl dX2_removeLatest_21 ?_
      refine lv_iload_n hx hb dX2_removeLatest_24 rfl (lv_at hl 0 rfl) ?_
      refine lv_null hx hb dX2_removeLatest_25 ?_
      refine va_astqN hx hb hK.1 hP hD hS 1 1 rfl rfl (vp_in_nI (n := dn - 1) (N := 8) (by omega) (by omega)) dX2_removeLatest_26 (fun H locs hP hD hS => ?_)
      rw [nI_clamp (show dn - 1 < 2 ^ 31 by omega)] at hP hD
      have hP : va_P (dC, dI) vwCl (wDs cQ b0 b1 (va_up row (dn - 1) none) dn) H := hP
      have hD : va_D A (wDs cQ b0 b1 (va_up row (dn - 1) none) dn) := hD
      refine lv_aload_n hx hb dX2_removeLatest_27 rfl (lv_at hl 1 rfl) ?_
      refine lv_iload_n hx hb dX2_removeLatest_28 rfl (lv_at hl 0 rfl) ?_
      refine va_put (D := (dC, dI)) (ci := 2) (v := .int (nI (dn - 1))) (ty := .int) (C := RX2) (T := TX2) (N := 2) hx hb hts hiX2 tyX2 tyX2_ok nmX2 hown hK.1 hP hD hS 0 rfl rfl 1 (by decide) (hts (.fieldLink RX2 15 "CellDays$Duties" "size" "I") (by decide +kernel)) (fun _ h9 => h9) rfl (by decide +kernel) (rfl) (rfl) (Nat.le_of_ble_eq_true rfl) dX2_removeLatest_29 (fun H locs hP hD hS => ?_)
      have hP : va_P (dC, dI) vwCl (wDs cQ b0 b1 (va_up row (dn - 1) none) (dn - 1)) H := hP
      have hD : va_D A (wDs cQ b0 b1 (va_up row (dn - 1) none) (dn - 1)) := hD
      refine lv_aload_n hx hb dX2_removeLatest_32 rfl (lv_at hl 1 rfl) ?_
      refine va_get (D := (dC, dI)) (ci := 2) (v := .int (nI (dn - 1))) (C := RX2) (T := TX2) (N := 2) hx hb hts hiX2 hown hK.1 hP 0 rfl rfl 1 (by decide) (hts (.fieldLink RX2 15 "CellDays$Duties" "size" "I") (by decide +kernel)) (fun _ h9 => h9) rfl dX2_removeLatest_33 ?_
      subst hex
      exact hret _ _ _ _ dX2_removeLatest_36 hP hD hS

def rX2_setOfOn : Room := { frames := 1, cells := 0, slots := 0, locals := 21 }
def sX2_setOfOn_L4 (row : Nat → Option Nat) (dn : Nat) (pd : Nat → DT) : Nat → Int32 → Nat → Int32
  | 0, vv, k => 0
  | n + 1, vv, k => (if (nI dn) ≤ (nI k) then vv else (match sX2_numbered row dn (nI k) with | none => sX2_setOfOn_L4 row dn pd n vv (k + 1) | some y_2 => (if ((pd y_2).2.2.2.2.2.2) = 0 then sX2_setOfOn_L4 row dn pd n vv (k + 1) else sX2_setOfOn_L4 row dn pd n (vv ||| (1 <<< ((nI k) &&& 31))) (k + 1))))
def sX2_setOfOn (row : Nat → Option Nat) (dn : Nat) (pd : Nat → DT) : Int32 := sX2_setOfOn_L4 row dn pd 9 0 0
set_option maxHeartbeats 4000000 in
set_option maxRecDepth 100000 in
theorem kX2_setOfOn (l : Launch) (dC : Nat → ClassId) (dI : Nat → Nat → Nat) (cI cQ cZ : ClassId) (b0 : Nat) (b1 : Nat) (row : Nat → Option Nat) (dn : Nat) (L : List Nat) (pd : Nat → DT) (hdn : dn ≤ 8) (hrw : ∀ j y, row j = some y → y ∈ L) : Met l yX2_setOfOn wsX2_setOfOn rX2_setOfOn (va_Pc [.ref b0] (cd_rp dC dI cI cQ cZ (wDs cQ b0 b1 row dn ++ dpl L pd))) (vp_Si (fun r => r = sX2_setOfOn row dn pd)) 0 0 (fun _ => False) := by
  have hiX2 : ∀ w ∈ u_ws RX2 TX2 2, w ∈ wsX2_setOfOn := by decide +kernel
  have hiX3 : ∀ w ∈ u_ws RX3 TX3 7, w ∈ wsX2_setOfOn := by decide +kernel
  generalize hex : sX2_setOfOn row dn pd = ex
  unfold sX2_setOfOn at hex
  refine cd_mRi [.ref b0] (by decide) rfl (Nat.le_of_ble_eq_true rfl) ?_
  intro Q p e s m args below meth c ls hx hb hml hown hts hret ⟨hK, hP⟩ hl
  have hl : lv_has ls 4 [(0, .ref b0)] := hl
  refine lv_iconst (v := 0) hx hb dX2_setOfOn_0 (by decide) ?_
  refine lv_istore_n (lv' := [(1, .int 0), (0, .ref b0)]) hx hb dX2_setOfOn_1 rfl hl (by decide) rfl (fun ls hl => ?_)
  refine lv_iconst (v := 0) hx hb dX2_setOfOn_2 (by decide) ?_
  refine lv_istore_n (lv' := [(2, .int 0), (1, .int 0), (0, .ref b0)]) hx hb dX2_setOfOn_3 rfl hl (by decide) rfl (fun ls hl => ?_)
  have L4 : ∀ (n : Nat) (vv : Int32) (k : Nat), (k ≤ 8) → 8 - k < n → sX2_setOfOn_L4 row dn pd n vv k = ex → ∀ (ls : Array Slot), lv_has ls 4 [(2, .int (nI k)), (1, .int vv), (0, .ref b0)] → W p l e rX2_setOfOn s m args below meth c s.heap [] 0 0 Q (F0 m 4 ls []) := by
    intro n
    induction n with
    | zero => intro vv k hk hm; exact absurd hm (Nat.not_lt_zero _)
    | succ n ih =>
      intro vv k hk hm hex ls hl
      rw [sX2_setOfOn_L4] at hex
      refine lv_iload_n hx hb dX2_setOfOn_4 rfl (lv_at hl 0 rfl) ?_
      refine lv_aload_n hx hb dX2_setOfOn_5 rfl (lv_at hl 2 rfl) ?_
      refine va_get (D := (dC, dI)) (ci := 2) (v := .int (nI dn)) (C := RX2) (T := TX2) (N := 2) hx hb hts hiX2 hown hK.1 hP 0 rfl rfl 1 (by decide) (hts (.fieldLink RX2 15 "CellDays$Duties" "size" "I") (by decide +kernel)) (fun _ h9 => h9) rfl dX2_setOfOn_6 ?_
      refine lv_icmp_ge (tgt := 41) hx hb dX2_setOfOn_9 (by decide) (fun c_1 => ?_) (fun c_1 => ?_)
      · rw [if_pos c_1] at hex
        try have n_1 : dn ≤ k := (nI_leI (a := dn) (b := k) (by omega) (by omega)).mp c_1
        refine lv_iload_n hx hb dX2_setOfOn_41 rfl (lv_at hl 1 rfl) ?_
        subst hex
        exact hret _ _ dX2_setOfOn_42
      · rw [if_neg c_1] at hex
        try have n_1 : ¬ dn ≤ k := fun h9 => c_1 ((nI_leI (a := dn) (b := k) (by omega) (by omega)).mpr h9)
        refine lv_aload_n hx hb dX2_setOfOn_12 rfl (lv_at hl 2 rfl) ?_
        refine lv_iload_n hx hb dX2_setOfOn_13 rfl (lv_at hl 0 rfl) ?_
        refine cd_rVq (As := [.int (nI k)]) (b := b0) (ci := 2) (q := (RX2, TX2, 2)) (rest := []) ⟨hx, hb, hml, hown, hts⟩ (kX2_numbered l dC dI cI cQ cZ b0 b1 row dn (nI k)) (cwV 1 hts gX2_setOfOn_X2_numbered rfl rfl rfl (by decide +kernel) ⟨by decide, by decide⟩) hK (hP.sub (ws' := (wDs cQ b0 b1 row dn)) [0, 1] rfl) rfl rfl rfl hl.1 rfl (Nat.le_of_ble_eq_true rfl) dX2_setOfOn_14 ⟨by decide, by decide⟩ ?_
        rcases hq_3 : sX2_numbered row dn (nI k) with _ | y_2
        · rw [hq_3] at hex
          dsimp only at hex
          show W p l e rX2_setOfOn s m args below meth c s.heap [] 0 0 Q (F0 m 17 ls [.null])
          refine lv_astore_nN (lv' := [(3, .null), (2, .int (nI k)), (1, .int vv), (0, .ref b0)]) hx hb dX2_setOfOn_17 rfl hl (by decide) rfl (fun ls hl => ?_)
          refine lv_aload_nN hx hb dX2_setOfOn_18 rfl (lv_at hl 0 rfl) ?_
          refine lv_ifnullN (tgt := 35) hx hb dX2_setOfOn_19 (by decide) ?_
          refine lv_iinc (v := nI (k + 1)) (lv' := [(2, .int (nI (k + 1))), (3, .null), (1, .int vv), (0, .ref b0)]) hx hb dX2_setOfOn_35 hl (k := 1) rfl (nI_1 k) (by decide) rfl (fun ls hl => ?_)
          refine lv_goto (tgt := 4) hx hb dX2_setOfOn_38 (by decide) ?_
          exact ih vv (k + 1) (by omega) (by omega) hex _ (lv_sub hl [0, 2, 3] rfl)
        · rw [hq_3] at hex
          dsimp only at hex
          show W p l e rX2_setOfOn s m args below meth c s.heap [] 0 0 Q (F0 m 17 ls [.ref y_2])
          have hm_4 : y_2 ∈ L := mem_numbered hrw hq_3
          refine lv_astore_n (lv' := [(3, .ref y_2), (2, .int (nI k)), (1, .int vv), (0, .ref b0)]) hx hb dX2_setOfOn_17 rfl hl (by decide) rfl (fun ls hl => ?_)
          refine lv_aload_n hx hb dX2_setOfOn_18 rfl (lv_at hl 0 rfl) ?_
          refine lv_ifnull hx hb dX2_setOfOn_19 ?_
          refine lv_aload_n hx hb dX2_setOfOn_22 rfl (lv_at hl 0 rfl) ?_
          refine va_getN (D := (dC, dI)) (ci := 3) (v := .int ((pd y_2).2.2.2.2.2.2)) (C := RX3) (T := TX3) (N := 7) hx hb hts hiX3 hown hK.1 (cd_one hP hm_4) 0 rfl rfl 6 (by decide) (va_Nw.use rfl (hK.2.1 (.fieldLinkNest RX2 23 RX3 "isOn" "Z" RX5) (by decide +kernel))) (fun _ h9 => h9) rfl dX2_setOfOn_23 ?_
          refine lv_if_eq (tgt := 35) hx hb dX2_setOfOn_26 (by decide) (fun c_5 => ?_) (fun c_5 => ?_)
          · rw [if_pos c_5] at hex
            refine lv_iinc (v := nI (k + 1)) (lv' := [(2, .int (nI (k + 1))), (3, .ref y_2), (1, .int vv), (0, .ref b0)]) hx hb dX2_setOfOn_35 hl (k := 1) rfl (nI_1 k) (by decide) rfl (fun ls hl => ?_)
            refine lv_goto (tgt := 4) hx hb dX2_setOfOn_38 (by decide) ?_
            exact ih vv (k + 1) (by omega) (by omega) hex _ (lv_sub hl [0, 2, 3] rfl)
          · rw [if_neg c_5] at hex
            refine lv_iload_n hx hb dX2_setOfOn_29 rfl (lv_at hl 2 rfl) ?_
            refine lv_iconst (v := 1) hx hb dX2_setOfOn_30 (by decide) ?_
            refine lv_iload_n hx hb dX2_setOfOn_31 rfl (lv_at hl 1 rfl) ?_
            refine lv_ishl hx hb dX2_setOfOn_32 ?_
            refine lv_ior hx hb dX2_setOfOn_33 ?_
            refine lv_istore_n (lv' := [(1, .int (vv ||| (1 <<< ((nI k) &&& 31)))), (3, .ref y_2), (2, .int (nI k)), (0, .ref b0)]) hx hb dX2_setOfOn_34 rfl hl (by decide) rfl (fun ls hl => ?_)
            refine lv_iinc (v := nI (k + 1)) (lv' := [(2, .int (nI (k + 1))), (1, .int (vv ||| (1 <<< ((nI k) &&& 31)))), (3, .ref y_2), (0, .ref b0)]) hx hb dX2_setOfOn_35 hl (k := 2) rfl (nI_1 k) (by decide) rfl (fun ls hl => ?_)
            refine lv_goto (tgt := 4) hx hb dX2_setOfOn_38 (by decide) ?_
            exact ih (vv ||| (1 <<< ((nI k) &&& 31))) (k + 1) (by omega) (by omega) hex _ (lv_sub hl [0, 1, 3] rfl)
  exact L4 9 0 0 (by decide) (by decide) hex _ (lv_sub hl [0, 1, 2] rfl)

def rX2_loadOf : Room := { frames := 2, cells := 0, slots := 0, locals := 44 }
def sX2_loadOf_L6 (row : Nat → Option Nat) (dn : Nat) (pd : Nat → DT) (st : Int32) (t : Int32) (br : Int32) : Nat → Int32 → Nat → Int32
  | 0, vv, k => 0
  | n + 1, vv, k => (if (nI dn) ≤ (nI k) then vv else (match sX2_numberedIn row dn st (nI k) with | none => sX2_loadOf_L6 row dn pd st t br n vv (k + 1) | some y_2 => sX2_loadOf_L6 row dn pd st t br n (vv + (sX3_drainBy (pd y_2) t br)) (k + 1)))
def sX2_loadOf (row : Nat → Option Nat) (dn : Nat) (pd : Nat → DT) (st : Int32) (t : Int32) (br : Int32) : Int32 := sX2_loadOf_L6 row dn pd st t br 9 0 0
set_option maxHeartbeats 4000000 in
set_option maxRecDepth 100000 in
theorem kX2_loadOf (l : Launch) (dC : Nat → ClassId) (dI : Nat → Nat → Nat) (cI cQ cZ : ClassId) (b0 : Nat) (b1 : Nat) (row : Nat → Option Nat) (dn : Nat) (L : List Nat) (pd : Nat → DT) (st : Int32) (t : Int32) (br : Int32) (hdn : dn ≤ 8) (hrw : ∀ j y, row j = some y → y ∈ L) : Met l yX2_loadOf wsX2_loadOf rX2_loadOf (va_Pc [.ref b0, .int st, .int t, .int br] (cd_rp dC dI cI cQ cZ (wDs cQ b0 b1 row dn ++ dpl L pd))) (vp_Si (fun r => r = sX2_loadOf row dn pd st t br)) 0 0 (fun _ => False) := by
  have hiX2 : ∀ w ∈ u_ws RX2 TX2 2, w ∈ wsX2_loadOf := by decide +kernel
  generalize hex : sX2_loadOf row dn pd st t br = ex
  unfold sX2_loadOf at hex
  refine cd_mRi [.ref b0, .int st, .int t, .int br] (by decide) rfl (Nat.le_of_ble_eq_true rfl) ?_
  intro Q p e s m args below meth c ls hx hb hml hown hts hret ⟨hK, hP⟩ hl
  have hl : lv_has ls 7 [(0, .ref b0), (1, .int st), (2, .int t), (3, .int br)] := hl
  refine lv_iconst (v := 0) hx hb dX2_loadOf_0 (by decide) ?_
  refine lv_istore (lv' := [(4, .int 0), (0, .ref b0), (1, .int st), (2, .int t), (3, .int br)]) hx hb dX2_loadOf_1 hl (by decide) rfl (fun ls hl => ?_)
  refine lv_iconst (v := 0) hx hb dX2_loadOf_3 (by decide) ?_
  refine lv_istore (lv' := [(5, .int 0), (4, .int 0), (0, .ref b0), (1, .int st), (2, .int t), (3, .int br)]) hx hb dX2_loadOf_4 hl (by decide) rfl (fun ls hl => ?_)
  have L6 : ∀ (n : Nat) (vv : Int32) (k : Nat), (k ≤ 8) → 8 - k < n → sX2_loadOf_L6 row dn pd st t br n vv k = ex → ∀ (ls : Array Slot), lv_has ls 7 [(5, .int (nI k)), (4, .int vv), (0, .ref b0), (1, .int st), (2, .int t), (3, .int br)] → W p l e rX2_loadOf s m args below meth c s.heap [] 0 0 Q (F0 m 6 ls []) := by
    intro n
    induction n with
    | zero => intro vv k hk hm; exact absurd hm (Nat.not_lt_zero _)
    | succ n ih =>
      intro vv k hk hm hex ls hl
      rw [sX2_loadOf_L6] at hex
      refine lv_iload hx hb dX2_loadOf_6 (lv_at hl 0 rfl) ?_
      refine lv_aload_n hx hb dX2_loadOf_8 rfl (lv_at hl 2 rfl) ?_
      refine va_get (D := (dC, dI)) (ci := 2) (v := .int (nI dn)) (C := RX2) (T := TX2) (N := 2) hx hb hts hiX2 hown hK.1 hP 0 rfl rfl 1 (by decide) (hts (.fieldLink RX2 15 "CellDays$Duties" "size" "I") (by decide +kernel)) (fun _ h9 => h9) rfl dX2_loadOf_9 ?_
      refine lv_icmp_ge (tgt := 47) hx hb dX2_loadOf_12 (by decide) (fun c_1 => ?_) (fun c_1 => ?_)
      · rw [if_pos c_1] at hex
        try have n_1 : dn ≤ k := (nI_leI (a := dn) (b := k) (by omega) (by omega)).mp c_1
        refine lv_iload hx hb dX2_loadOf_47 (lv_at hl 1 rfl) ?_
        subst hex
        exact hret _ _ dX2_loadOf_49
      · rw [if_neg c_1] at hex
        try have n_1 : ¬ dn ≤ k := fun h9 => c_1 ((nI_leI (a := dn) (b := k) (by omega) (by omega)).mpr h9)
        refine lv_aload_n hx hb dX2_loadOf_15 rfl (lv_at hl 2 rfl) ?_
        refine lv_iload_n hx hb dX2_loadOf_16 rfl (lv_at hl 3 rfl) ?_
        refine lv_iload hx hb dX2_loadOf_17 (lv_at hl 0 rfl) ?_
        refine cd_rVq (As := [.int st, .int (nI k)]) (b := b0) (ci := 2) (q := (RX2, TX2, 2)) (rest := []) ⟨hx, hb, hml, hown, hts⟩ (kX2_numberedIn l dC dI cI cQ cZ b0 b1 row dn st (nI k)) (cwV 2 hts gX2_loadOf_X2_numberedIn rfl rfl rfl (by decide +kernel) ⟨by decide, by decide⟩) hK (hP.sub (ws' := (wDs cQ b0 b1 row dn)) [0, 1] rfl) rfl rfl rfl hl.1 rfl (Nat.le_of_ble_eq_true rfl) dX2_loadOf_19 ⟨by decide, by decide⟩ ?_
        rcases hq_3 : sX2_numberedIn row dn st (nI k) with _ | y_2
        · rw [hq_3] at hex
          dsimp only at hex
          show W p l e rX2_loadOf s m args below meth c s.heap [] 0 0 Q (F0 m 22 ls [.null])
          refine lv_astoreN (lv' := [(6, .null), (5, .int (nI k)), (4, .int vv), (0, .ref b0), (1, .int st), (2, .int t), (3, .int br)]) hx hb dX2_loadOf_22 hl (by decide) rfl (fun ls hl => ?_)
          refine lv_aloadN hx hb dX2_loadOf_24 (lv_at hl 0 rfl) ?_
          refine lv_ifnullN (tgt := 41) hx hb dX2_loadOf_26 (by decide) ?_
          refine lv_iinc (v := nI (k + 1)) (lv' := [(5, .int (nI (k + 1))), (6, .null), (4, .int vv), (0, .ref b0), (1, .int st), (2, .int t), (3, .int br)]) hx hb dX2_loadOf_41 hl (k := 1) rfl (nI_1 k) (by decide) rfl (fun ls hl => ?_)
          refine lv_goto (tgt := 6) hx hb dX2_loadOf_44 (by decide) ?_
          exact ih vv (k + 1) (by omega) (by omega) hex _ (lv_sub hl [0, 2, 3, 4, 5, 6] rfl)
        · rw [hq_3] at hex
          dsimp only at hex
          show W p l e rX2_loadOf s m args below meth c s.heap [] 0 0 Q (F0 m 22 ls [.ref y_2])
          have hm_4 : y_2 ∈ L := mem_numberedIn hrw hq_3
          refine lv_astore (lv' := [(6, .ref y_2), (5, .int (nI k)), (4, .int vv), (0, .ref b0), (1, .int st), (2, .int t), (3, .int br)]) hx hb dX2_loadOf_22 hl (by decide) rfl (fun ls hl => ?_)
          refine lv_aload hx hb dX2_loadOf_24 (lv_at hl 0 rfl) ?_
          refine lv_ifnull hx hb dX2_loadOf_26 ?_
          refine lv_iload hx hb dX2_loadOf_29 (lv_at hl 2 rfl) ?_
          refine lv_aload hx hb dX2_loadOf_31 (lv_at hl 0 rfl) ?_
          refine lv_iload_n hx hb dX2_loadOf_33 rfl (lv_at hl 5 rfl) ?_
          refine lv_iload_n hx hb dX2_loadOf_34 rfl (lv_at hl 6 rfl) ?_
          refine cd_rV (As := [.int t, .int br]) (b := y_2) (ci := 3) (q := (RX3, TX3, 7)) (rest := [.int vv]) ⟨hx, hb, hml, hown, hts⟩ (kX3_drainBy l dC dI cI cQ cZ y_2 (pd y_2) t br) (cwV 2 hts gX2_loadOf_X3_drainBy rfl rfl rfl (by decide +kernel) ⟨by decide, by decide⟩) hK (cd_one hP hm_4) rfl rfl rfl hl.1 rfl (Nat.le_of_ble_eq_true rfl) dX2_loadOf_35 ⟨by decide, by decide⟩ ?_
          refine lv_iadd hx hb dX2_loadOf_38 ?_
          refine lv_istore (lv' := [(4, .int (vv + (sX3_drainBy (pd y_2) t br))), (6, .ref y_2), (5, .int (nI k)), (0, .ref b0), (1, .int st), (2, .int t), (3, .int br)]) hx hb dX2_loadOf_39 hl (by decide) rfl (fun ls hl => ?_)
          refine lv_iinc (v := nI (k + 1)) (lv' := [(5, .int (nI (k + 1))), (4, .int (vv + (sX3_drainBy (pd y_2) t br))), (6, .ref y_2), (0, .ref b0), (1, .int st), (2, .int t), (3, .int br)]) hx hb dX2_loadOf_41 hl (k := 2) rfl (nI_1 k) (by decide) rfl (fun ls hl => ?_)
          refine lv_goto (tgt := 6) hx hb dX2_loadOf_44 (by decide) ?_
          exact ih (vv + (sX3_drainBy (pd y_2) t br)) (k + 1) (by omega) (by omega) hex _ (lv_sub hl [0, 1, 3, 4, 5, 6] rfl)
  exact L6 9 0 0 (by decide) (by decide) hex _ (lv_sub hl [0, 1, 2, 3, 4, 5] rfl)

def rX2_worthOf : Room := { frames := 2, cells := 0, slots := 0, locals := 43 }
def sX2_worthOf_L4 (row : Nat → Option Nat) (dn : Nat) (pd : Nat → DT) (st : Int32) : Nat → Int32 → Nat → Int32
  | 0, vv, k => 0
  | n + 1, vv, k => (if (nI dn) ≤ (nI k) then vv else (match sX2_numberedIn row dn st (nI k) with | none => sX2_worthOf_L4 row dn pd st n vv (k + 1) | some y_2 => sX2_worthOf_L4 row dn pd st n (vv + ((pd y_2).2.2.2.2.2.1)) (k + 1)))
def sX2_worthOf (row : Nat → Option Nat) (dn : Nat) (pd : Nat → DT) (st : Int32) : Int32 := sX2_worthOf_L4 row dn pd st 9 0 0
set_option maxHeartbeats 4000000 in
set_option maxRecDepth 100000 in
theorem kX2_worthOf (l : Launch) (dC : Nat → ClassId) (dI : Nat → Nat → Nat) (cI cQ cZ : ClassId) (b0 : Nat) (b1 : Nat) (row : Nat → Option Nat) (dn : Nat) (L : List Nat) (pd : Nat → DT) (st : Int32) (hdn : dn ≤ 8) (hrw : ∀ j y, row j = some y → y ∈ L) : Met l yX2_worthOf wsX2_worthOf rX2_worthOf (va_Pc [.ref b0, .int st] (cd_rp dC dI cI cQ cZ (wDs cQ b0 b1 row dn ++ dpl L pd))) (vp_Si (fun r => r = sX2_worthOf row dn pd st)) 0 0 (fun _ => False) := by
  have hiX2 : ∀ w ∈ u_ws RX2 TX2 2, w ∈ wsX2_worthOf := by decide +kernel
  have hiX3 : ∀ w ∈ u_ws RX3 TX3 7, w ∈ wsX2_worthOf := by decide +kernel
  generalize hex : sX2_worthOf row dn pd st = ex
  unfold sX2_worthOf at hex
  refine cd_mRi [.ref b0, .int st] (by decide) rfl (Nat.le_of_ble_eq_true rfl) ?_
  intro Q p e s m args below meth c ls hx hb hml hown hts hret ⟨hK, hP⟩ hl
  have hl : lv_has ls 5 [(0, .ref b0), (1, .int st)] := hl
  refine lv_iconst (v := 0) hx hb dX2_worthOf_0 (by decide) ?_
  refine lv_istore_n (lv' := [(2, .int 0), (0, .ref b0), (1, .int st)]) hx hb dX2_worthOf_1 rfl hl (by decide) rfl (fun ls hl => ?_)
  refine lv_iconst (v := 0) hx hb dX2_worthOf_2 (by decide) ?_
  refine lv_istore_n (lv' := [(3, .int 0), (2, .int 0), (0, .ref b0), (1, .int st)]) hx hb dX2_worthOf_3 rfl hl (by decide) rfl (fun ls hl => ?_)
  have L4 : ∀ (n : Nat) (vv : Int32) (k : Nat), (k ≤ 8) → 8 - k < n → sX2_worthOf_L4 row dn pd st n vv k = ex → ∀ (ls : Array Slot), lv_has ls 5 [(3, .int (nI k)), (2, .int vv), (0, .ref b0), (1, .int st)] → W p l e rX2_worthOf s m args below meth c s.heap [] 0 0 Q (F0 m 4 ls []) := by
    intro n
    induction n with
    | zero => intro vv k hk hm; exact absurd hm (Nat.not_lt_zero _)
    | succ n ih =>
      intro vv k hk hm hex ls hl
      rw [sX2_worthOf_L4] at hex
      refine lv_iload_n hx hb dX2_worthOf_4 rfl (lv_at hl 0 rfl) ?_
      refine lv_aload_n hx hb dX2_worthOf_5 rfl (lv_at hl 2 rfl) ?_
      refine va_get (D := (dC, dI)) (ci := 2) (v := .int (nI dn)) (C := RX2) (T := TX2) (N := 2) hx hb hts hiX2 hown hK.1 hP 0 rfl rfl 1 (by decide) (hts (.fieldLink RX2 15 "CellDays$Duties" "size" "I") (by decide +kernel)) (fun _ h9 => h9) rfl dX2_worthOf_6 ?_
      refine lv_icmp_ge (tgt := 39) hx hb dX2_worthOf_9 (by decide) (fun c_1 => ?_) (fun c_1 => ?_)
      · rw [if_pos c_1] at hex
        try have n_1 : dn ≤ k := (nI_leI (a := dn) (b := k) (by omega) (by omega)).mp c_1
        refine lv_iload_n hx hb dX2_worthOf_39 rfl (lv_at hl 1 rfl) ?_
        subst hex
        exact hret _ _ dX2_worthOf_40
      · rw [if_neg c_1] at hex
        try have n_1 : ¬ dn ≤ k := fun h9 => c_1 ((nI_leI (a := dn) (b := k) (by omega) (by omega)).mpr h9)
        refine lv_aload_n hx hb dX2_worthOf_12 rfl (lv_at hl 2 rfl) ?_
        refine lv_iload_n hx hb dX2_worthOf_13 rfl (lv_at hl 3 rfl) ?_
        refine lv_iload_n hx hb dX2_worthOf_14 rfl (lv_at hl 0 rfl) ?_
        refine cd_rVq (As := [.int st, .int (nI k)]) (b := b0) (ci := 2) (q := (RX2, TX2, 2)) (rest := []) ⟨hx, hb, hml, hown, hts⟩ (kX2_numberedIn l dC dI cI cQ cZ b0 b1 row dn st (nI k)) (cwV 2 hts gX2_worthOf_X2_numberedIn rfl rfl rfl (by decide +kernel) ⟨by decide, by decide⟩) hK (hP.sub (ws' := (wDs cQ b0 b1 row dn)) [0, 1] rfl) rfl rfl rfl hl.1 rfl (Nat.le_of_ble_eq_true rfl) dX2_worthOf_15 ⟨by decide, by decide⟩ ?_
        rcases hq_3 : sX2_numberedIn row dn st (nI k) with _ | y_2
        · rw [hq_3] at hex
          dsimp only at hex
          show W p l e rX2_worthOf s m args below meth c s.heap [] 0 0 Q (F0 m 18 ls [.null])
          refine lv_astoreN (lv' := [(4, .null), (3, .int (nI k)), (2, .int vv), (0, .ref b0), (1, .int st)]) hx hb dX2_worthOf_18 hl (by decide) rfl (fun ls hl => ?_)
          refine lv_aloadN hx hb dX2_worthOf_20 (lv_at hl 0 rfl) ?_
          refine lv_ifnullN (tgt := 33) hx hb dX2_worthOf_22 (by decide) ?_
          refine lv_iinc (v := nI (k + 1)) (lv' := [(3, .int (nI (k + 1))), (4, .null), (2, .int vv), (0, .ref b0), (1, .int st)]) hx hb dX2_worthOf_33 hl (k := 1) rfl (nI_1 k) (by decide) rfl (fun ls hl => ?_)
          refine lv_goto (tgt := 4) hx hb dX2_worthOf_36 (by decide) ?_
          exact ih vv (k + 1) (by omega) (by omega) hex _ (lv_sub hl [0, 2, 3, 4] rfl)
        · rw [hq_3] at hex
          dsimp only at hex
          show W p l e rX2_worthOf s m args below meth c s.heap [] 0 0 Q (F0 m 18 ls [.ref y_2])
          have hm_4 : y_2 ∈ L := mem_numberedIn hrw hq_3
          refine lv_astore (lv' := [(4, .ref y_2), (3, .int (nI k)), (2, .int vv), (0, .ref b0), (1, .int st)]) hx hb dX2_worthOf_18 hl (by decide) rfl (fun ls hl => ?_)
          refine lv_aload hx hb dX2_worthOf_20 (lv_at hl 0 rfl) ?_
          refine lv_ifnull hx hb dX2_worthOf_22 ?_
          refine lv_iload_n hx hb dX2_worthOf_25 rfl (lv_at hl 2 rfl) ?_
          refine lv_aload hx hb dX2_worthOf_26 (lv_at hl 0 rfl) ?_
          refine va_getN (D := (dC, dI)) (ci := 3) (v := .int ((pd y_2).2.2.2.2.2.1)) (C := RX3) (T := TX3) (N := 7) hx hb hts hiX3 hown hK.1 (cd_one hP hm_4) 0 rfl rfl 5 (by decide) (va_Nw.use rfl (hK.2.1 (.fieldLinkNest RX2 35 RX3 "worth" "I" RX5) (by decide +kernel))) (fun _ h9 => h9) rfl dX2_worthOf_28 ?_
          refine lv_iadd hx hb dX2_worthOf_31 ?_
          refine lv_istore_n (lv' := [(2, .int (vv + ((pd y_2).2.2.2.2.2.1))), (4, .ref y_2), (3, .int (nI k)), (0, .ref b0), (1, .int st)]) hx hb dX2_worthOf_32 rfl hl (by decide) rfl (fun ls hl => ?_)
          refine lv_iinc (v := nI (k + 1)) (lv' := [(3, .int (nI (k + 1))), (2, .int (vv + ((pd y_2).2.2.2.2.2.1))), (4, .ref y_2), (0, .ref b0), (1, .int st)]) hx hb dX2_worthOf_33 hl (k := 2) rfl (nI_1 k) (by decide) rfl (fun ls hl => ?_)
          refine lv_goto (tgt := 4) hx hb dX2_worthOf_36 (by decide) ?_
          exact ih (vv + ((pd y_2).2.2.2.2.2.1)) (k + 1) (by omega) (by omega) hex _ (lv_sub hl [0, 1, 3, 4] rfl)
  exact L4 9 0 0 (by decide) (by decide) hex _ (lv_sub hl [0, 1, 2, 3] rfl)
end
section
def rX4_isFull : Room := { frames := 0, cells := 0, slots := 0, locals := 0 }
def sX4_isFull (sn : Nat) : Int32 := (if (nI sn) < 12 then 0 else 1)
set_option maxHeartbeats 4000000 in
set_option maxRecDepth 100000 in
theorem kX4_isFull (l : Launch) (dC : Nat → ClassId) (dI : Nat → Nat → Nat) (cI cQ cZ : ClassId) (g0 : Nat) (g1 : Nat) (g2 : Nat) (g3 : Nat) (dy : Nat → Int32) (lv : Nat → Int32) (od : Nat → Int32) (sn : Nat) : Met l yX4_isFull wsX4_isFull rX4_isFull (va_Pc [.ref g0] (cd_rp dC dI cI cQ cZ (wSg cI g0 g1 g2 g3 dy lv od sn))) (vp_Si (fun r => r = sX4_isFull sn)) 0 0 (fun _ => False) := by
  have hiX4 : ∀ w ∈ u_ws RX4 TX4 4, w ∈ wsX4_isFull := by decide +kernel
  generalize hex : sX4_isFull sn = ex
  unfold sX4_isFull at hex
  refine cd_mRz [.ref g0] (by decide) rfl (Nat.le_of_ble_eq_true rfl) ?_
  intro Q p e s m args below meth c ls hx hb hml hown hts hret ⟨hK, hP⟩ hl
  have hl : lv_has ls 1 [(0, .ref g0)] := hl
  refine lv_aload_n hx hb dX4_isFull_0 rfl (lv_at hl 0 rfl) ?_
  refine va_get (D := (dC, dI)) (ci := 4) (v := .int (nI sn)) (C := RX4) (T := TX4) (N := 4) hx hb hts hiX4 hown hK.1 hP 0 rfl rfl 3 (by decide) (hts (.fieldLink RX4 19 "CellDays$Signs" "size" "I") (by decide +kernel)) (fun _ h9 => h9) rfl dX4_isFull_1 ?_
  refine lv_bipush (v := 12) hx hb dX4_isFull_4 (by decide) ?_
  refine lv_icmp_lt (tgt := 13) hx hb dX4_isFull_6 (by decide) (fun c_1 => ?_) (fun c_1 => ?_)
  · rw [if_pos c_1] at hex
    try have n_1 : sn < 12 := (nI_ltI (a := sn) (b := 12) (by omega) (by omega)).mp c_1
    refine lv_iconst (v := 0) hx hb dX4_isFull_13 (by decide) ?_
    subst hex
    exact hret _ _ rfl dX4_isFull_14
  · rw [if_neg c_1] at hex
    try have n_1 : ¬ sn < 12 := fun h9 => c_1 ((nI_ltI (a := sn) (b := 12) (by omega) (by omega)).mpr h9)
    refine lv_iconst (v := 1) hx hb dX4_isFull_9 (by decide) ?_
    refine lv_goto (tgt := 14) hx hb dX4_isFull_10 (by decide) ?_
    subst hex
    exact hret _ _ rfl dX4_isFull_14

def rX4_dayInOrder : Room := { frames := 1, cells := 0, slots := 0, locals := 21 }
def sX4_dayInOrder (dy : Nat → Int32) (od : Nat → Int32) (i : Int32) : Int32 := (sX5_at 12 dy (sX5_at 12 od i))
set_option maxHeartbeats 4000000 in
set_option maxRecDepth 100000 in
theorem kX4_dayInOrder (l : Launch) (dC : Nat → ClassId) (dI : Nat → Nat → Nat) (cI cQ cZ : ClassId) (g0 : Nat) (g1 : Nat) (g2 : Nat) (g3 : Nat) (dy : Nat → Int32) (lv : Nat → Int32) (od : Nat → Int32) (sn : Nat) (i : Int32) : Met l yX4_dayInOrder wsX4_dayInOrder rX4_dayInOrder (va_Pc [.ref g0, .int i] (cd_rp dC dI cI cQ cZ (wSg cI g0 g1 g2 g3 dy lv od sn))) (vp_Si (fun r => r = sX4_dayInOrder dy od i)) 0 0 (fun _ => False) := by
  have hiX4 : ∀ w ∈ u_ws RX4 TX4 4, w ∈ wsX4_dayInOrder := by decide +kernel
  generalize hex : sX4_dayInOrder dy od i = ex
  unfold sX4_dayInOrder at hex
  refine cd_mRi [.ref g0, .int i] (by decide) rfl (Nat.le_of_ble_eq_true rfl) ?_
  intro Q p e s m args below meth c ls hx hb hml hown hts hret ⟨hK, hP⟩ hl
  have hl : lv_has ls 2 [(0, .ref g0), (1, .int i)] := hl
  refine lv_aload_n hx hb dX4_dayInOrder_0 rfl (lv_at hl 0 rfl) ?_
  refine va_get (D := (dC, dI)) (ci := 4) (v := .ref g1) (C := RX4) (T := TX4) (N := 4) hx hb hts hiX4 hown hK.1 hP 0 rfl rfl 0 (by decide) (hts (.fieldLink RX4 9 "CellDays$Signs" "days" "[I") (by decide +kernel)) (fun _ h9 => h9) rfl dX4_dayInOrder_1 ?_
  refine lv_aload_n hx hb dX4_dayInOrder_4 rfl (lv_at hl 0 rfl) ?_
  refine va_get (D := (dC, dI)) (ci := 4) (v := .ref g3) (C := RX4) (T := TX4) (N := 4) hx hb hts hiX4 hown hK.1 hP 0 rfl rfl 2 (by decide) (hts (.fieldLink RX4 16 "CellDays$Signs" "order" "[I") (by decide +kernel)) (fun _ h9 => h9) rfl dX4_dayInOrder_5 ?_
  refine lv_iload_n hx hb dX4_dayInOrder_8 rfl (lv_at hl 1 rfl) ?_
  refine cd_rSN (As := [.ref g3, .int i]) (rest := [.ref g1]) ⟨hx, hb, hml, hown, hts⟩ (kX5_at l dC dI cI cQ cZ g3 12 od i (by decide)) ⟨va_cnB 2 hts gX4_dayInOrder_X5_at_n36 rfl rfl rfl (hK.2.1 (.methodLinkNest RX4 36 yX5_at RX5) (by decide +kernel)) (hts (.initialized RX5) (by decide +kernel)) (by decide +kernel) ⟨by decide, by decide⟩, hts (.static yX5_at) (by decide +kernel), trivial⟩ hK (hP.sub (ws' := (wAr cI g3 12 od)) [3] rfl) rfl hl.1 rfl (Nat.le_of_ble_eq_true rfl) dX4_dayInOrder_9 ⟨by decide, by decide⟩ ?_
  refine cd_rSN (As := [.ref g1, .int (sX5_at 12 od i)]) (rest := []) ⟨hx, hb, hml, hown, hts⟩ (kX5_at l dC dI cI cQ cZ g1 12 dy (sX5_at 12 od i) (by decide)) ⟨va_cnB 2 hts gX4_dayInOrder_X5_at_n36 rfl rfl rfl (hK.2.1 (.methodLinkNest RX4 36 yX5_at RX5) (by decide +kernel)) (hts (.initialized RX5) (by decide +kernel)) (by decide +kernel) ⟨by decide, by decide⟩, hts (.static yX5_at) (by decide +kernel), trivial⟩ hK (hP.sub (ws' := (wAr cI g1 12 dy)) [1] rfl) rfl hl.1 rfl (Nat.le_of_ble_eq_true rfl) dX4_dayInOrder_12 ⟨by decide, by decide⟩ ?_
  subst hex
  exact hret _ _ dX4_dayInOrder_15

def rX4_levelInOrder : Room := { frames := 1, cells := 0, slots := 0, locals := 21 }
def sX4_levelInOrder (lv : Nat → Int32) (od : Nat → Int32) (i : Int32) : Int32 := (sX5_at 12 lv (sX5_at 12 od i))
set_option maxHeartbeats 4000000 in
set_option maxRecDepth 100000 in
theorem kX4_levelInOrder (l : Launch) (dC : Nat → ClassId) (dI : Nat → Nat → Nat) (cI cQ cZ : ClassId) (g0 : Nat) (g1 : Nat) (g2 : Nat) (g3 : Nat) (dy : Nat → Int32) (lv : Nat → Int32) (od : Nat → Int32) (sn : Nat) (i : Int32) : Met l yX4_levelInOrder wsX4_levelInOrder rX4_levelInOrder (va_Pc [.ref g0, .int i] (cd_rp dC dI cI cQ cZ (wSg cI g0 g1 g2 g3 dy lv od sn))) (vp_Si (fun r => r = sX4_levelInOrder lv od i)) 0 0 (fun _ => False) := by
  have hiX4 : ∀ w ∈ u_ws RX4 TX4 4, w ∈ wsX4_levelInOrder := by decide +kernel
  generalize hex : sX4_levelInOrder lv od i = ex
  unfold sX4_levelInOrder at hex
  refine cd_mRi [.ref g0, .int i] (by decide) rfl (Nat.le_of_ble_eq_true rfl) ?_
  intro Q p e s m args below meth c ls hx hb hml hown hts hret ⟨hK, hP⟩ hl
  have hl : lv_has ls 2 [(0, .ref g0), (1, .int i)] := hl
  refine lv_aload_n hx hb dX4_levelInOrder_0 rfl (lv_at hl 0 rfl) ?_
  refine va_get (D := (dC, dI)) (ci := 4) (v := .ref g2) (C := RX4) (T := TX4) (N := 4) hx hb hts hiX4 hown hK.1 hP 0 rfl rfl 1 (by decide) (hts (.fieldLink RX4 13 "CellDays$Signs" "levels" "[I") (by decide +kernel)) (fun _ h9 => h9) rfl dX4_levelInOrder_1 ?_
  refine lv_aload_n hx hb dX4_levelInOrder_4 rfl (lv_at hl 0 rfl) ?_
  refine va_get (D := (dC, dI)) (ci := 4) (v := .ref g3) (C := RX4) (T := TX4) (N := 4) hx hb hts hiX4 hown hK.1 hP 0 rfl rfl 2 (by decide) (hts (.fieldLink RX4 16 "CellDays$Signs" "order" "[I") (by decide +kernel)) (fun _ h9 => h9) rfl dX4_levelInOrder_5 ?_
  refine lv_iload_n hx hb dX4_levelInOrder_8 rfl (lv_at hl 1 rfl) ?_
  refine cd_rSN (As := [.ref g3, .int i]) (rest := [.ref g2]) ⟨hx, hb, hml, hown, hts⟩ (kX5_at l dC dI cI cQ cZ g3 12 od i (by decide)) ⟨va_cnB 2 hts gX4_levelInOrder_X5_at_n36 rfl rfl rfl (hK.2.1 (.methodLinkNest RX4 36 yX5_at RX5) (by decide +kernel)) (hts (.initialized RX5) (by decide +kernel)) (by decide +kernel) ⟨by decide, by decide⟩, hts (.static yX5_at) (by decide +kernel), trivial⟩ hK (hP.sub (ws' := (wAr cI g3 12 od)) [3] rfl) rfl hl.1 rfl (Nat.le_of_ble_eq_true rfl) dX4_levelInOrder_9 ⟨by decide, by decide⟩ ?_
  refine cd_rSN (As := [.ref g2, .int (sX5_at 12 od i)]) (rest := []) ⟨hx, hb, hml, hown, hts⟩ (kX5_at l dC dI cI cQ cZ g2 12 lv (sX5_at 12 od i) (by decide)) ⟨va_cnB 2 hts gX4_levelInOrder_X5_at_n36 rfl rfl rfl (hK.2.1 (.methodLinkNest RX4 36 yX5_at RX5) (by decide +kernel)) (hts (.initialized RX5) (by decide +kernel)) (by decide +kernel) ⟨by decide, by decide⟩, hts (.static yX5_at) (by decide +kernel), trivial⟩ hK (hP.sub (ws' := (wAr cI g2 12 lv)) [2] rfl) rfl hl.1 rfl (Nat.le_of_ble_eq_true rfl) dX4_levelInOrder_12 ⟨by decide, by decide⟩ ?_
  subst hex
  exact hret _ _ dX4_levelInOrder_15

def rX4_arrange : Room := { frames := 2, cells := 0, slots := 0, locals := 42 }
def sX4_arrange_L12 (dy : Nat → Int32) (k : Nat) : Nat → Nat → (Nat → Int32) → (Nat) × (Nat → Int32)
  | 0, pz, oi => (pz, oi)
  | n + 1, pz, oi => (if (nI pz) ≤ 0 then (pz, oi) else (if (sX4_dayInOrder dy oi (nI (pz - 1))) ≤ (sX5_at 12 dy (nI k)) then (pz, oi) else sX4_arrange_L12 dy k n (pz - 1) (sX5_put 12 oi (nI pz) (sX5_at 12 oi (nI (pz - 1))))))
def sX4_arrange_L2 (dy : Nat → Int32) (sn : Nat) : Nat → Nat → (Nat → Int32) → (Nat → Int32)
  | 0, k, ov => (fun _ => 0)
  | n + 1, k, ov => (if (nI sn) ≤ (nI k) then ov else (match sX4_arrange_L12 dy k 13 k ov with | (x_4, x_5) => sX4_arrange_L2 dy sn n (k + 1) (sX5_put 12 x_5 (nI x_4) (nI k))))
def sX4_arrange (dy : Nat → Int32) (od : Nat → Int32) (sn : Nat) : (Nat → Int32) := sX4_arrange_L2 dy sn 13 0 od
set_option maxHeartbeats 4000000 in
set_option maxRecDepth 100000 in
theorem kX4_arrange (l : Launch) (dC : Nat → ClassId) (dI : Nat → Nat → Nat) (cI cQ cZ : ClassId) (g0 : Nat) (g1 : Nat) (g2 : Nat) (g3 : Nat) (dy : Nat → Int32) (lv : Nat → Int32) (od : Nat → Int32) (sn : Nat) (sz : Nat) (hsn : sn ≤ 12) : Met l yX4_arrange wsX4_arrange rX4_arrange (va_Pc [.ref g0] (cd_pre dC dI cI cQ cZ (wSg cI g0 g1 g2 g3 dy lv od sn) sz)) (va_Qv (fun _ => True) (cd_post dC dI (wSg cI g0 g1 g2 g3 dy lv od sn) (wSg cI g0 g1 g2 g3 dy lv (sX4_arrange dy od sn) sn) sz) (va_A (wSg cI g0 g1 g2 g3 dy lv od sn) sz)) 0 0 (va_A (wSg cI g0 g1 g2 g3 dy lv od sn) sz) := by
  have hiX4 : ∀ w ∈ u_ws RX4 TX4 4, w ∈ wsX4_arrange := by decide +kernel
  generalize hex : sX4_arrange dy od sn = ex
  unfold sX4_arrange at hex
  refine cd_mMv [.ref g0] (by decide) rfl (Nat.le_of_ble_eq_true rfl) ?_
  intro Q A p e s m args below meth c ls hx hb hml hown hts hA hinit hret hK hP hD hS hl
  have hl : lv_has ls 3 [(0, .ref g0)] := hl
  refine lv_iconst (v := 0) hx hb dX4_arrange_0 (by decide) ?_
  refine lv_istore_n (lv' := [(1, .int 0), (0, .ref g0)]) hx hb dX4_arrange_1 rfl hl (by decide) rfl (fun ls hl => ?_)
  have L2 : ∀ (n : Nat) (k : Nat) (ov : Nat → Int32), (k ≤ 12) → 12 - k < n → sX4_arrange_L2 dy sn n k ov = ex → ∀ (ls : Array Slot) (H : Heap) (locs : List Loc), lv_has ls 3 [(1, .int (nI k)), (0, .ref g0)] → va_P (dC, dI) vwCl (wSg cI g0 g1 g2 g3 dy lv ov sn) H → va_D A (wSg cI g0 g1 g2 g3 dy lv ov sn) → va_S A s.heap H locs → W p l e rX4_arrange s m args below meth c H locs 0 0 Q (F0 m 2 ls []) := by
    intro n
    induction n with
    | zero => intro k ov hk hm; exact absurd hm (Nat.not_lt_zero _)
    | succ n ih =>
      intro k ov hk hm hex ls H locs hl hP hD hS
      rw [sX4_arrange_L2] at hex
      refine lv_iload_n hx hb dX4_arrange_2 rfl (lv_at hl 0 rfl) ?_
      refine lv_aload_n hx hb dX4_arrange_3 rfl (lv_at hl 1 rfl) ?_
      refine va_get (D := (dC, dI)) (ci := 4) (v := .int (nI sn)) (C := RX4) (T := TX4) (N := 4) hx hb hts hiX4 hown hK.1 hP 0 rfl rfl 3 (by decide) (hts (.fieldLink RX4 19 "CellDays$Signs" "size" "I") (by decide +kernel)) (fun _ h9 => h9) rfl dX4_arrange_4 ?_
      refine lv_icmp_ge (tgt := 73) hx hb dX4_arrange_7 (by decide) (fun c_1 => ?_) (fun c_1 => ?_)
      · rw [if_pos c_1] at hex
        try have n_1 : sn ≤ k := (nI_leI (a := sn) (b := k) (by omega) (by omega)).mp c_1
        subst hex
        exact hret _ _ _ _ dX4_arrange_73 hP hD hS
      · rw [if_neg c_1] at hex
        try have n_1 : ¬ sn ≤ k := fun h9 => c_1 ((nI_leI (a := sn) (b := k) (by omega) (by omega)).mpr h9)
        refine lv_iload_n hx hb dX4_arrange_10 rfl (lv_at hl 0 rfl) ?_
        refine lv_istore_n (lv' := [(2, .int (nI k)), (1, .int (nI k)), (0, .ref g0)]) hx hb dX4_arrange_11 rfl hl (by decide) rfl (fun ls hl => ?_)
        have L12 : ∀ (n : Nat) (pz : Nat) (oi : Nat → Int32), (pz ≤ 12) → pz < n → ∀ (ls : Array Slot) (H : Heap) (locs : List Loc), lv_has ls 3 [(2, .int (nI pz)), (1, .int (nI k)), (0, .ref g0)] → va_P (dC, dI) vwCl (wSg cI g0 g1 g2 g3 dy lv oi sn) H → va_D A (wSg cI g0 g1 g2 g3 dy lv oi sn) → va_S A s.heap H locs → (∀ (pzx : Nat) (oix : Nat → Int32), sX4_arrange_L12 dy k n pz oi = (pzx, oix) → ∀ (ls : Array Slot) (H : Heap) (locs : List Loc), lv_has ls 3 [(2, .int (nI pzx)), (1, .int (nI k)), (0, .ref g0)] → va_P (dC, dI) vwCl (wSg cI g0 g1 g2 g3 dy lv oix sn) H → va_D A (wSg cI g0 g1 g2 g3 dy lv oix sn) → va_S A s.heap H locs → W p l e rX4_arrange s m args below meth c H locs 0 0 Q (F0 m 58 ls [])) → W p l e rX4_arrange s m args below meth c H locs 0 0 Q (F0 m 12 ls []) := by
          intro n
          induction n with
          | zero => intro pz oi hp hm; exact absurd hm (Nat.not_lt_zero _)
          | succ n ih =>
            intro pz oi hp hm ls H locs hl hP hD hS hk
            refine lv_iload_n hx hb dX4_arrange_12 rfl (lv_at hl 0 rfl) ?_
            refine lv_if_le (tgt := 58) hx hb dX4_arrange_13 (by decide) (fun c_2 => ?_) (fun c_2 => ?_)
            · skip
              try have n_2 : pz ≤ 0 := (nI_leI (a := pz) (b := 0) (by omega) (by omega)).mp c_2
              exact hk pz oi (by rw [sX4_arrange_L12, if_pos c_2]) _ _ _ (lv_sub hl [0, 1, 2] rfl) hP hD hS
            · skip
              try have n_2 : ¬ pz ≤ 0 := fun h9 => c_2 ((nI_leI (a := pz) (b := 0) (by omega) (by omega)).mpr h9)
              refine lv_aload_n hx hb dX4_arrange_16 rfl (lv_at hl 2 rfl) ?_
              refine lv_iload_n hx hb dX4_arrange_17 rfl (lv_at hl 0 rfl) ?_
              refine lv_iconst (v := 1) hx hb dX4_arrange_18 (by decide) ?_
              refine lv_isub hx hb dX4_arrange_19 ?_
              refine W.eq (g2 := F0 m 20 ls [.int (nI (pz - 1)), .ref g0]) (by rw [cd_s1 (by omega)]) ?_
              refine cd_rV (As := [.int (nI (pz - 1))]) (b := g0) (ci := 4) (q := (RX4, TX4, 4)) (rest := []) ⟨hx, hb, hml, hown, hts⟩ (kX4_dayInOrder l dC dI cI cQ cZ g0 g1 g2 g3 dy lv oi sn (nI (pz - 1))) (cwV 1 hts gX4_arrange_X4_dayInOrder rfl rfl rfl (by decide +kernel) ⟨by decide, by decide⟩) hK hP rfl rfl rfl hl.1 rfl (Nat.le_of_ble_eq_true rfl) dX4_arrange_20 ⟨by decide, by decide⟩ ?_
              refine lv_aload_n hx hb dX4_arrange_23 rfl (lv_at hl 2 rfl) ?_
              refine va_get (D := (dC, dI)) (ci := 4) (v := .ref g1) (C := RX4) (T := TX4) (N := 4) hx hb hts hiX4 hown hK.1 hP 0 rfl rfl 0 (by decide) (hts (.fieldLink RX4 9 "CellDays$Signs" "days" "[I") (by decide +kernel)) (fun _ h9 => h9) rfl dX4_arrange_24 ?_
              refine lv_iload_n hx hb dX4_arrange_27 rfl (lv_at hl 1 rfl) ?_
              refine cd_rSN (As := [.ref g1, .int (nI k)]) (rest := [.int (sX4_dayInOrder dy oi (nI (pz - 1)))]) ⟨hx, hb, hml, hown, hts⟩ (kX5_at l dC dI cI cQ cZ g1 12 dy (nI k) (by decide)) ⟨va_cnB 2 hts gX4_arrange_X5_at_n36 rfl rfl rfl (hK.2.1 (.methodLinkNest RX4 36 yX5_at RX5) (by decide +kernel)) (hts (.initialized RX5) (by decide +kernel)) (by decide +kernel) ⟨by decide, by decide⟩, hts (.static yX5_at) (by decide +kernel), trivial⟩ hK (hP.sub (ws' := (wAr cI g1 12 dy)) [1] rfl) rfl hl.1 rfl (Nat.le_of_ble_eq_true rfl) dX4_arrange_28 ⟨by decide, by decide⟩ ?_
              refine lv_icmp_le (tgt := 58) hx hb dX4_arrange_31 (by decide) (fun c_3 => ?_) (fun c_3 => ?_)
              · skip
                exact hk pz oi (by rw [sX4_arrange_L12, if_neg c_2, if_pos c_3]) _ _ _ (lv_sub hl [0, 1, 2] rfl) hP hD hS
              · skip
                refine lv_aload_n hx hb dX4_arrange_34 rfl (lv_at hl 2 rfl) ?_
                refine va_get (D := (dC, dI)) (ci := 4) (v := .ref g3) (C := RX4) (T := TX4) (N := 4) hx hb hts hiX4 hown hK.1 hP 0 rfl rfl 2 (by decide) (hts (.fieldLink RX4 16 "CellDays$Signs" "order" "[I") (by decide +kernel)) (fun _ h9 => h9) rfl dX4_arrange_35 ?_
                refine lv_iload_n hx hb dX4_arrange_38 rfl (lv_at hl 0 rfl) ?_
                refine lv_aload_n hx hb dX4_arrange_39 rfl (lv_at hl 2 rfl) ?_
                refine va_get (D := (dC, dI)) (ci := 4) (v := .ref g3) (C := RX4) (T := TX4) (N := 4) hx hb hts hiX4 hown hK.1 hP 0 rfl rfl 2 (by decide) (hts (.fieldLink RX4 16 "CellDays$Signs" "order" "[I") (by decide +kernel)) (fun _ h9 => h9) rfl dX4_arrange_40 ?_
                refine lv_iload_n hx hb dX4_arrange_43 rfl (lv_at hl 0 rfl) ?_
                refine lv_iconst (v := 1) hx hb dX4_arrange_44 (by decide) ?_
                refine lv_isub hx hb dX4_arrange_45 ?_
                refine W.eq (g2 := F0 m 46 ls [.int (nI (pz - 1)), .ref g3, .int (nI pz), .ref g3]) (by rw [cd_s1 (by omega)]) ?_
                refine cd_rSN (As := [.ref g3, .int (nI (pz - 1))]) (rest := [.int (nI pz), .ref g3]) ⟨hx, hb, hml, hown, hts⟩ (kX5_at l dC dI cI cQ cZ g3 12 oi (nI (pz - 1)) (by decide)) ⟨va_cnB 2 hts gX4_arrange_X5_at_n36 rfl rfl rfl (hK.2.1 (.methodLinkNest RX4 36 yX5_at RX5) (by decide +kernel)) (hts (.initialized RX5) (by decide +kernel)) (by decide +kernel) ⟨by decide, by decide⟩, hts (.static yX5_at) (by decide +kernel), trivial⟩ hK (hP.sub (ws' := (wAr cI g3 12 oi)) [3] rfl) rfl hl.1 rfl (Nat.le_of_ble_eq_true rfl) dX4_arrange_46 ⟨by decide, by decide⟩ ?_
                have hDc : va_D A (wAr cI g3 12 oi) := (hD.sub (ws' := (wAr cI g3 12 oi)) [3] (by decide) rfl)
                have hFc := cd_F hDc hS hA
                refine cd_wSv (As := [.ref g3, .int (nI pz), .int (sX5_at 12 oi (nI (pz - 1)))]) (rest := []) ⟨hx, hb, hml, hown, hts⟩ (kX5_put l dC dI cI cQ cZ g3 12 oi (nI pz) (sX5_at 12 oi (nI (pz - 1))) H.size (by decide)) ⟨va_cnB 3 hts gX4_arrange_X5_put_n23 rfl rfl rfl (hK.2.1 (.methodLinkNest RX4 23 yX5_put RX5) (by decide +kernel)) (hts (.initialized RX5) (by decide +kernel)) (by decide +kernel) ⟨by decide, by decide⟩, hts (.static yX5_put) (by decide +kernel), trivial⟩ hK (hP.sub (ws' := (wAr cI g3 12 oi)) [3] rfl) hDc hFc hS rfl hl.1 rfl (Nat.le_of_ble_eq_true rfl) dX4_arrange_49 ⟨by decide, by decide⟩ (fun H1 locs hP1 hD1 hk1 hS => ?_)
                obtain ⟨hP, hD⟩ := va_join (ws := (wSg cI g0 g1 g2 g3 dy lv oi sn)) (wc := (wAr cI g3 12 oi)) (wr := [(g0, .inr (4, [.ref g1, .ref g2, .ref g3, .int (nI sn)])), (g1, .inl (cI, 12, .inl dy)), (g2, .inl (cI, 12, .inl lv))]) (w1 := (wAr cI g3 12 (sX5_put 12 oi (nI pz) (sX5_at 12 oi (nI (pz - 1)))))) hP hD [3] [0, 1, 2] rfl rfl (by decide) (by decide) hk1 hFc hP1 hD1
                have hP := hP.sub (ws' := (wSg cI g0 g1 g2 g3 dy lv (sX5_put 12 oi (nI pz) (sX5_at 12 oi (nI (pz - 1)))) sn)) [0, 1, 2, 3] rfl
                have hD := hD.sub (ws' := (wSg cI g0 g1 g2 g3 dy lv (sX5_put 12 oi (nI pz) (sX5_at 12 oi (nI (pz - 1)))) sn)) [0, 1, 2, 3] (by decide) rfl
                generalize H1 = H at hP hS ⊢
                have hP : va_P (dC, dI) vwCl (wSg cI g0 g1 g2 g3 dy lv (sX5_put 12 oi (nI pz) (sX5_at 12 oi (nI (pz - 1)))) sn) H := hP
                have hD : va_D A (wSg cI g0 g1 g2 g3 dy lv (sX5_put 12 oi (nI pz) (sX5_at 12 oi (nI (pz - 1)))) sn) := hD
                refine lv_iinc (v := nI (pz - 1)) (lv' := [(2, .int (nI (pz - 1))), (1, .int (nI k)), (0, .ref g0)]) hx hb dX4_arrange_52 hl (k := 0) rfl (cd_m1 (by omega)) (by decide) rfl (fun ls hl => ?_)
                refine lv_goto (tgt := 12) hx hb dX4_arrange_55 (by decide) ?_
                exact ih (pz - 1) (sX5_put 12 oi (nI pz) (sX5_at 12 oi (nI (pz - 1)))) (by omega) (by omega) _ _ _ (lv_sub hl [0, 1, 2] rfl) hP hD hS (fun pzx oix he => hk pzx oix (by rw [sX4_arrange_L12, if_neg c_2, if_neg c_3]; exact he))
        refine L12 13 k ov (by omega) (by omega) _ _ _ (lv_sub hl [0, 1, 2] rfl) hP hD hS ?_
        intro x_4 x_5 hb_6 ls H locs hl hP hD hS
        rw [hb_6] at hex
        dsimp only at hex
        refine lv_aload_n hx hb dX4_arrange_58 rfl (lv_at hl 2 rfl) ?_
        refine va_get (D := (dC, dI)) (ci := 4) (v := .ref g3) (C := RX4) (T := TX4) (N := 4) hx hb hts hiX4 hown hK.1 hP 0 rfl rfl 2 (by decide) (hts (.fieldLink RX4 16 "CellDays$Signs" "order" "[I") (by decide +kernel)) (fun _ h9 => h9) rfl dX4_arrange_59 ?_
        refine lv_iload_n hx hb dX4_arrange_62 rfl (lv_at hl 0 rfl) ?_
        refine lv_iload_n hx hb dX4_arrange_63 rfl (lv_at hl 1 rfl) ?_
        have hDc : va_D A (wAr cI g3 12 x_5) := (hD.sub (ws' := (wAr cI g3 12 x_5)) [3] (by decide) rfl)
        have hFc := cd_F hDc hS hA
        refine cd_wSv (As := [.ref g3, .int (nI x_4), .int (nI k)]) (rest := []) ⟨hx, hb, hml, hown, hts⟩ (kX5_put l dC dI cI cQ cZ g3 12 x_5 (nI x_4) (nI k) H.size (by decide)) ⟨va_cnB 3 hts gX4_arrange_X5_put_n23 rfl rfl rfl (hK.2.1 (.methodLinkNest RX4 23 yX5_put RX5) (by decide +kernel)) (hts (.initialized RX5) (by decide +kernel)) (by decide +kernel) ⟨by decide, by decide⟩, hts (.static yX5_put) (by decide +kernel), trivial⟩ hK (hP.sub (ws' := (wAr cI g3 12 x_5)) [3] rfl) hDc hFc hS rfl hl.1 rfl (Nat.le_of_ble_eq_true rfl) dX4_arrange_64 ⟨by decide, by decide⟩ (fun H1 locs hP1 hD1 hk1 hS => ?_)
        obtain ⟨hP, hD⟩ := va_join (ws := (wSg cI g0 g1 g2 g3 dy lv x_5 sn)) (wc := (wAr cI g3 12 x_5)) (wr := [(g0, .inr (4, [.ref g1, .ref g2, .ref g3, .int (nI sn)])), (g1, .inl (cI, 12, .inl dy)), (g2, .inl (cI, 12, .inl lv))]) (w1 := (wAr cI g3 12 (sX5_put 12 x_5 (nI x_4) (nI k)))) hP hD [3] [0, 1, 2] rfl rfl (by decide) (by decide) hk1 hFc hP1 hD1
        have hP := hP.sub (ws' := (wSg cI g0 g1 g2 g3 dy lv (sX5_put 12 x_5 (nI x_4) (nI k)) sn)) [0, 1, 2, 3] rfl
        have hD := hD.sub (ws' := (wSg cI g0 g1 g2 g3 dy lv (sX5_put 12 x_5 (nI x_4) (nI k)) sn)) [0, 1, 2, 3] (by decide) rfl
        generalize H1 = H at hP hS ⊢
        have hP : va_P (dC, dI) vwCl (wSg cI g0 g1 g2 g3 dy lv (sX5_put 12 x_5 (nI x_4) (nI k)) sn) H := hP
        have hD : va_D A (wSg cI g0 g1 g2 g3 dy lv (sX5_put 12 x_5 (nI x_4) (nI k)) sn) := hD
        refine lv_iinc (v := nI (k + 1)) (lv' := [(1, .int (nI (k + 1))), (2, .int (nI x_4)), (0, .ref g0)]) hx hb dX4_arrange_67 hl (k := 1) rfl (nI_1 k) (by decide) rfl (fun ls hl => ?_)
        refine lv_goto (tgt := 2) hx hb dX4_arrange_70 (by decide) ?_
        exact ih (k + 1) (sX5_put 12 x_5 (nI x_4) (nI k)) (by omega) (by omega) hex _ _ _ (lv_sub hl [0, 2] rfl) hP hD hS
  exact L2 13 0 od (by decide) (by decide) hex _ _ _ (lv_sub hl [0, 1] rfl) hP hD hS

def rX4_add : Room := { frames := 3, cells := 0, slots := 0, locals := 64 }
def sX4_add (dy : Nat → Int32) (lv : Nat → Int32) (od : Nat → Int32) (sn : Nat) (d0 : Int32) (l0 : Int32) : Int32 × (Nat → Int32) × (Nat → Int32) × (Nat → Int32) × (Nat) := (nI (sn + 1), sX5_put 12 dy (nI sn) d0, sX5_put 12 lv (nI sn) l0, sX4_arrange (sX5_put 12 dy (nI sn) d0) od (sn + 1), sn + 1)
set_option maxHeartbeats 4000000 in
set_option maxRecDepth 100000 in
theorem kX4_add (l : Launch) (dC : Nat → ClassId) (dI : Nat → Nat → Nat) (cI cQ cZ : ClassId) (g0 : Nat) (g1 : Nat) (g2 : Nat) (g3 : Nat) (dy : Nat → Int32) (lv : Nat → Int32) (od : Nat → Int32) (sn : Nat) (d0 : Int32) (l0 : Int32) (sz : Nat) (hsn : sn < 12) : Met l yX4_add wsX4_add rX4_add (va_Pc [.ref g0, .int d0, .int l0] (cd_pre dC dI cI cQ cZ (wSg cI g0 g1 g2 g3 dy lv od sn) sz)) (va_Qi (fun r _ => r = (sX4_add dy lv od sn d0 l0).1) (cd_post dC dI (wSg cI g0 g1 g2 g3 dy lv od sn) (wSg cI g0 g1 g2 g3 ((sX4_add dy lv od sn d0 l0).2.1) ((sX4_add dy lv od sn d0 l0).2.2.1) ((sX4_add dy lv od sn d0 l0).2.2.2.1) ((sX4_add dy lv od sn d0 l0).2.2.2.2)) sz) (va_A (wSg cI g0 g1 g2 g3 dy lv od sn) sz)) 0 0 (va_A (wSg cI g0 g1 g2 g3 dy lv od sn) sz) := by
  have hiX4 : ∀ w ∈ u_ws RX4 TX4 4, w ∈ wsX4_add := by decide +kernel
  generalize hex : sX4_add dy lv od sn d0 l0 = ex
  unfold sX4_add at hex
  refine cd_mMi [.ref g0, .int d0, .int l0] (by decide) rfl (Nat.le_of_ble_eq_true rfl) ?_
  intro Q A p e s m args below meth c ls hx hb hml hown hts hA hret hK hP hD hS hl
  have hl : lv_has ls 3 [(0, .ref g0), (1, .int d0), (2, .int l0)] := hl
  refine lv_aload_n hx hb dX4_add_0 rfl (lv_at hl 0 rfl) ?_
  refine va_get (D := (dC, dI)) (ci := 4) (v := .ref g1) (C := RX4) (T := TX4) (N := 4) hx hb hts hiX4 hown hK.1 hP 0 rfl rfl 0 (by decide) (hts (.fieldLink RX4 9 "CellDays$Signs" "days" "[I") (by decide +kernel)) (fun _ h9 => h9) rfl dX4_add_1 ?_
  refine lv_aload_n hx hb dX4_add_4 rfl (lv_at hl 0 rfl) ?_
  refine va_get (D := (dC, dI)) (ci := 4) (v := .int (nI sn)) (C := RX4) (T := TX4) (N := 4) hx hb hts hiX4 hown hK.1 hP 0 rfl rfl 3 (by decide) (hts (.fieldLink RX4 19 "CellDays$Signs" "size" "I") (by decide +kernel)) (fun _ h9 => h9) rfl dX4_add_5 ?_
  refine lv_iload_n hx hb dX4_add_8 rfl (lv_at hl 1 rfl) ?_
  have hDc : va_D A (wAr cI g1 12 dy) := (hD.sub (ws' := (wAr cI g1 12 dy)) [1] (by decide) rfl)
  have hFc := cd_F hDc hS hA
  refine cd_wSv (As := [.ref g1, .int (nI sn), .int d0]) (rest := []) ⟨hx, hb, hml, hown, hts⟩ (kX5_put l dC dI cI cQ cZ g1 12 dy (nI sn) d0 s.heap.size (by decide)) ⟨va_cnB 3 hts gX4_add_X5_put_n23 rfl rfl rfl (hK.2.1 (.methodLinkNest RX4 23 yX5_put RX5) (by decide +kernel)) (hts (.initialized RX5) (by decide +kernel)) (by decide +kernel) ⟨by decide, by decide⟩, hts (.static yX5_put) (by decide +kernel), trivial⟩ hK (hP.sub (ws' := (wAr cI g1 12 dy)) [1] rfl) hDc hFc hS rfl hl.1 rfl (Nat.le_of_ble_eq_true rfl) dX4_add_9 ⟨by decide, by decide⟩ (fun H1 locs hP1 hD1 hk1 hS => ?_)
  obtain ⟨hP, hD⟩ := va_join (ws := (wSg cI g0 g1 g2 g3 dy lv od sn)) (wc := (wAr cI g1 12 dy)) (wr := [(g0, .inr (4, [.ref g1, .ref g2, .ref g3, .int (nI sn)])), (g2, .inl (cI, 12, .inl lv)), (g3, .inl (cI, 12, .inl od))]) (w1 := (wAr cI g1 12 (sX5_put 12 dy (nI sn) d0))) hP hD [1] [0, 2, 3] rfl rfl (by decide) (by decide) hk1 hFc hP1 hD1
  have hP := hP.sub (ws' := (wSg cI g0 g1 g2 g3 (sX5_put 12 dy (nI sn) d0) lv od sn)) [0, 3, 1, 2] rfl
  have hD := hD.sub (ws' := (wSg cI g0 g1 g2 g3 (sX5_put 12 dy (nI sn) d0) lv od sn)) [0, 3, 1, 2] (by decide) rfl
  generalize H1 = H at hP hS ⊢
  have hP : va_P (dC, dI) vwCl (wSg cI g0 g1 g2 g3 (sX5_put 12 dy (nI sn) d0) lv od sn) H := hP
  have hD : va_D A (wSg cI g0 g1 g2 g3 (sX5_put 12 dy (nI sn) d0) lv od sn) := hD
  refine lv_aload_n hx hb dX4_add_12 rfl (lv_at hl 0 rfl) ?_
  refine va_get (D := (dC, dI)) (ci := 4) (v := .ref g2) (C := RX4) (T := TX4) (N := 4) hx hb hts hiX4 hown hK.1 hP 0 rfl rfl 1 (by decide) (hts (.fieldLink RX4 13 "CellDays$Signs" "levels" "[I") (by decide +kernel)) (fun _ h9 => h9) rfl dX4_add_13 ?_
  refine lv_aload_n hx hb dX4_add_16 rfl (lv_at hl 0 rfl) ?_
  refine va_get (D := (dC, dI)) (ci := 4) (v := .int (nI sn)) (C := RX4) (T := TX4) (N := 4) hx hb hts hiX4 hown hK.1 hP 0 rfl rfl 3 (by decide) (hts (.fieldLink RX4 19 "CellDays$Signs" "size" "I") (by decide +kernel)) (fun _ h9 => h9) rfl dX4_add_17 ?_
  refine lv_iload_n hx hb dX4_add_20 rfl (lv_at hl 2 rfl) ?_
  have hDc : va_D A (wAr cI g2 12 lv) := (hD.sub (ws' := (wAr cI g2 12 lv)) [2] (by decide) rfl)
  have hFc := cd_F hDc hS hA
  refine cd_wSv (As := [.ref g2, .int (nI sn), .int l0]) (rest := []) ⟨hx, hb, hml, hown, hts⟩ (kX5_put l dC dI cI cQ cZ g2 12 lv (nI sn) l0 H.size (by decide)) ⟨va_cnB 3 hts gX4_add_X5_put_n23 rfl rfl rfl (hK.2.1 (.methodLinkNest RX4 23 yX5_put RX5) (by decide +kernel)) (hts (.initialized RX5) (by decide +kernel)) (by decide +kernel) ⟨by decide, by decide⟩, hts (.static yX5_put) (by decide +kernel), trivial⟩ hK (hP.sub (ws' := (wAr cI g2 12 lv)) [2] rfl) hDc hFc hS rfl hl.1 rfl (Nat.le_of_ble_eq_true rfl) dX4_add_21 ⟨by decide, by decide⟩ (fun H1 locs hP1 hD1 hk1 hS => ?_)
  obtain ⟨hP, hD⟩ := va_join (ws := (wSg cI g0 g1 g2 g3 (sX5_put 12 dy (nI sn) d0) lv od sn)) (wc := (wAr cI g2 12 lv)) (wr := [(g0, .inr (4, [.ref g1, .ref g2, .ref g3, .int (nI sn)])), (g1, .inl (cI, 12, .inl (sX5_put 12 dy (nI sn) d0))), (g3, .inl (cI, 12, .inl od))]) (w1 := (wAr cI g2 12 (sX5_put 12 lv (nI sn) l0))) hP hD [2] [0, 1, 3] rfl rfl (by decide) (by decide) hk1 hFc hP1 hD1
  have hP := hP.sub (ws' := (wSg cI g0 g1 g2 g3 (sX5_put 12 dy (nI sn) d0) (sX5_put 12 lv (nI sn) l0) od sn)) [0, 1, 3, 2] rfl
  have hD := hD.sub (ws' := (wSg cI g0 g1 g2 g3 (sX5_put 12 dy (nI sn) d0) (sX5_put 12 lv (nI sn) l0) od sn)) [0, 1, 3, 2] (by decide) rfl
  generalize H1 = H at hP hS ⊢
  have hP : va_P (dC, dI) vwCl (wSg cI g0 g1 g2 g3 (sX5_put 12 dy (nI sn) d0) (sX5_put 12 lv (nI sn) l0) od sn) H := hP
  have hD : va_D A (wSg cI g0 g1 g2 g3 (sX5_put 12 dy (nI sn) d0) (sX5_put 12 lv (nI sn) l0) od sn) := hD
  refine lv_aload_n hx hb dX4_add_24 rfl (lv_at hl 0 rfl) ?_
  refine lv_dup hx hb dX4_add_25 rfl ?_
  refine va_get (D := (dC, dI)) (ci := 4) (v := .int (nI sn)) (C := RX4) (T := TX4) (N := 4) hx hb hts hiX4 hown hK.1 hP 0 rfl rfl 3 (by decide) (hts (.fieldLink RX4 19 "CellDays$Signs" "size" "I") (by decide +kernel)) (fun _ h9 => h9) rfl dX4_add_26 ?_
  refine lv_iconst (v := 1) hx hb dX4_add_29 (by decide) ?_
  refine lv_iadd hx hb dX4_add_30 ?_
  refine W.eq (g2 := F0 m 31 ls [.int (nI (sn + 1)), .ref g0]) (by rw [nI_1]) ?_
  refine va_put (D := (dC, dI)) (ci := 4) (v := .int (nI (sn + 1))) (ty := .int) (C := RX4) (T := TX4) (N := 4) hx hb hts hiX4 tyX4 tyX4_ok nmX4 hown hK.1 hP hD hS 0 rfl rfl 3 (by decide) (hts (.fieldLink RX4 19 "CellDays$Signs" "size" "I") (by decide +kernel)) (fun _ h9 => h9) rfl (by decide +kernel) (rfl) (rfl) (Nat.le_of_ble_eq_true rfl) dX4_add_31 (fun H locs hP hD hS => ?_)
  have hP : va_P (dC, dI) vwCl (wSg cI g0 g1 g2 g3 (sX5_put 12 dy (nI sn) d0) (sX5_put 12 lv (nI sn) l0) od (sn + 1)) H := hP
  have hD : va_D A (wSg cI g0 g1 g2 g3 (sX5_put 12 dy (nI sn) d0) (sX5_put 12 lv (nI sn) l0) od (sn + 1)) := hD
  refine lv_aload_n hx hb dX4_add_34 rfl (lv_at hl 0 rfl) ?_
  have hDc : va_D A (wSg cI g0 g1 g2 g3 (sX5_put 12 dy (nI sn) d0) (sX5_put 12 lv (nI sn) l0) od (sn + 1)) := hD
  have hFc := cd_F hDc hS hA
  refine cd_wVv (As := []) (b := g0) (ci := 4) (q := (RX4, TX4, 4)) (rest := []) ⟨hx, hb, hml, hown, hts⟩ (kX4_arrange l dC dI cI cQ cZ g0 g1 g2 g3 (sX5_put 12 dy (nI sn) d0) (sX5_put 12 lv (nI sn) l0) od (sn + 1) H.size (by omega)) (cwV 0 hts gX4_add_X4_arrange rfl rfl rfl (by decide +kernel) ⟨by decide, by decide⟩) hK hP hDc hFc hS rfl rfl rfl hl.1 rfl (Nat.le_of_ble_eq_true rfl) dX4_add_35 ⟨by decide, by decide⟩ (fun H1 locs hP1 hD1 hk1 hS => ?_)
  have hP := hP1
  have hD := cd_DA hD1 hFc
  generalize H1 = H at hP hS ⊢
  have hP : va_P (dC, dI) vwCl (wSg cI g0 g1 g2 g3 (sX5_put 12 dy (nI sn) d0) (sX5_put 12 lv (nI sn) l0) (sX4_arrange (sX5_put 12 dy (nI sn) d0) od (sn + 1)) (sn + 1)) H := hP
  have hD : va_D A (wSg cI g0 g1 g2 g3 (sX5_put 12 dy (nI sn) d0) (sX5_put 12 lv (nI sn) l0) (sX4_arrange (sX5_put 12 dy (nI sn) d0) od (sn + 1)) (sn + 1)) := hD
  refine lv_aload_n hx hb dX4_add_38 rfl (lv_at hl 0 rfl) ?_
  refine va_get (D := (dC, dI)) (ci := 4) (v := .int (nI (sn + 1))) (C := RX4) (T := TX4) (N := 4) hx hb hts hiX4 hown hK.1 hP 0 rfl rfl 3 (by decide) (hts (.fieldLink RX4 19 "CellDays$Signs" "size" "I") (by decide +kernel)) (fun _ h9 => h9) rfl dX4_add_39 ?_
  subst hex
  exact hret _ _ _ _ dX4_add_42 hP hD hS

def rX4_removeLatest : Room := { frames := 3, cells := 0, slots := 0, locals := 64 }
def sX4_removeLatest (dy : Nat → Int32) (od : Nat → Int32) (sn : Nat) : Int32 × (Nat → Int32) × (Nat) := (nI (sn - 1), sX4_arrange dy od (sn - 1), sn - 1)
set_option maxHeartbeats 4000000 in
set_option maxRecDepth 100000 in
theorem kX4_removeLatest (l : Launch) (dC : Nat → ClassId) (dI : Nat → Nat → Nat) (cI cQ cZ : ClassId) (g0 : Nat) (g1 : Nat) (g2 : Nat) (g3 : Nat) (dy : Nat → Int32) (lv : Nat → Int32) (od : Nat → Int32) (sn : Nat) (sz : Nat) (hsn : sn ≤ 12) (hs0 : 0 < sn) : Met l yX4_removeLatest wsX4_removeLatest rX4_removeLatest (va_Pc [.ref g0] (cd_pre dC dI cI cQ cZ (wSg cI g0 g1 g2 g3 dy lv od sn) sz)) (va_Qi (fun r _ => r = (sX4_removeLatest dy od sn).1) (cd_post dC dI (wSg cI g0 g1 g2 g3 dy lv od sn) (wSg cI g0 g1 g2 g3 dy lv ((sX4_removeLatest dy od sn).2.1) ((sX4_removeLatest dy od sn).2.2)) sz) (va_A (wSg cI g0 g1 g2 g3 dy lv od sn) sz)) 0 0 (va_A (wSg cI g0 g1 g2 g3 dy lv od sn) sz) := by
  have hiX4 : ∀ w ∈ u_ws RX4 TX4 4, w ∈ wsX4_removeLatest := by decide +kernel
  generalize hex : sX4_removeLatest dy od sn = ex
  unfold sX4_removeLatest at hex
  refine cd_mMi [.ref g0] (by decide) rfl (Nat.le_of_ble_eq_true rfl) ?_
  intro Q A p e s m args below meth c ls hx hb hml hown hts hA hret hK hP hD hS hl
  have hl : lv_has ls 1 [(0, .ref g0)] := hl
  refine lv_aload_n hx hb dX4_removeLatest_0 rfl (lv_at hl 0 rfl) ?_
  refine lv_dup hx hb dX4_removeLatest_1 rfl ?_
  refine va_get (D := (dC, dI)) (ci := 4) (v := .int (nI sn)) (C := RX4) (T := TX4) (N := 4) hx hb hts hiX4 hown hK.1 hP 0 rfl rfl 3 (by decide) (hts (.fieldLink RX4 19 "CellDays$Signs" "size" "I") (by decide +kernel)) (fun _ h9 => h9) rfl dX4_removeLatest_2 ?_
  refine lv_iconst (v := 1) hx hb dX4_removeLatest_5 (by decide) ?_
  refine lv_isub hx hb dX4_removeLatest_6 ?_
  refine W.eq (g2 := F0 m 7 ls [.int (nI (sn - 1)), .ref g0]) (by rw [cd_s1 hs0]) ?_
  refine va_put (D := (dC, dI)) (ci := 4) (v := .int (nI (sn - 1))) (ty := .int) (C := RX4) (T := TX4) (N := 4) hx hb hts hiX4 tyX4 tyX4_ok nmX4 hown hK.1 hP hD hS 0 rfl rfl 3 (by decide) (hts (.fieldLink RX4 19 "CellDays$Signs" "size" "I") (by decide +kernel)) (fun _ h9 => h9) rfl (by decide +kernel) (rfl) (rfl) (Nat.le_of_ble_eq_true rfl) dX4_removeLatest_7 (fun H locs hP hD hS => ?_)
  have hP : va_P (dC, dI) vwCl (wSg cI g0 g1 g2 g3 dy lv od (sn - 1)) H := hP
  have hD : va_D A (wSg cI g0 g1 g2 g3 dy lv od (sn - 1)) := hD
  refine lv_aload_n hx hb dX4_removeLatest_10 rfl (lv_at hl 0 rfl) ?_
  have hDc : va_D A (wSg cI g0 g1 g2 g3 dy lv od (sn - 1)) := hD
  have hFc := cd_F hDc hS hA
  refine cd_wVv (As := []) (b := g0) (ci := 4) (q := (RX4, TX4, 4)) (rest := []) ⟨hx, hb, hml, hown, hts⟩ (kX4_arrange l dC dI cI cQ cZ g0 g1 g2 g3 dy lv od (sn - 1) H.size (by omega)) (cwV 0 hts gX4_removeLatest_X4_arrange rfl rfl rfl (by decide +kernel) ⟨by decide, by decide⟩) hK hP hDc hFc hS rfl rfl rfl hl.1 rfl (Nat.le_of_ble_eq_true rfl) dX4_removeLatest_11 ⟨by decide, by decide⟩ (fun H1 locs hP1 hD1 hk1 hS => ?_)
  have hP := hP1
  have hD := cd_DA hD1 hFc
  generalize H1 = H at hP hS ⊢
  have hP : va_P (dC, dI) vwCl (wSg cI g0 g1 g2 g3 dy lv (sX4_arrange dy od (sn - 1)) (sn - 1)) H := hP
  have hD : va_D A (wSg cI g0 g1 g2 g3 dy lv (sX4_arrange dy od (sn - 1)) (sn - 1)) := hD
  refine lv_aload_n hx hb dX4_removeLatest_14 rfl (lv_at hl 0 rfl) ?_
  refine va_get (D := (dC, dI)) (ci := 4) (v := .int (nI (sn - 1))) (C := RX4) (T := TX4) (N := 4) hx hb hts hiX4 hown hK.1 hP 0 rfl rfl 3 (by decide) (hts (.fieldLink RX4 19 "CellDays$Signs" "size" "I") (by decide +kernel)) (fun _ h9 => h9) rfl dX4_removeLatest_15 ?_
  subst hex
  exact hret _ _ _ _ dX4_removeLatest_18 hP hD hS
end
section
def rX0_isNumber : Room := { frames := 1, cells := 0, slots := 0, locals := 22 }
def sX0_isNumber (nu : Int32) : Int32 := (sX5_within nu 0 149)
set_option maxHeartbeats 4000000 in
set_option maxRecDepth 100000 in
theorem kX0_isNumber (l : Launch) (dC : Nat → ClassId) (dI : Nat → Nat → Nat) (cI cQ cZ : ClassId) (nu : Int32) : Met l yX0_isNumber wsX0_isNumber rX0_isNumber (va_Pc [.int nu] (cd_rp dC dI cI cQ cZ [])) (vp_Si (fun r => r = sX0_isNumber nu)) 0 0 (fun _ => False) := by
  generalize hex : sX0_isNumber nu = ex
  unfold sX0_isNumber at hex
  refine cd_mRz [.int nu] (by decide) rfl (Nat.le_of_ble_eq_true rfl) ?_
  intro Q p e s m args below meth c ls hx hb hml hown hts hret ⟨hK, hP⟩ hl
  have hl : lv_has ls 1 [(0, .int nu)] := hl
  refine lv_iload_n hx hb dX0_isNumber_0 rfl (lv_at hl 0 rfl) ?_
  refine lv_iconst (v := 0) hx hb dX0_isNumber_1 (by decide) ?_
  refine lv_sipush (v := 149) hx hb dX0_isNumber_2 (by decide) ?_
  refine cd_rSN (As := [.int nu, .int 0, .int 149]) (rest := []) ⟨hx, hb, hml, hown, hts⟩ (kX5_within l dC dI cI cQ cZ nu 0 149) ⟨va_cnB 3 hts gX0_isNumber_X5_within_n42 rfl rfl rfl (hK.2.1 (.methodLinkNest RX0 42 yX5_within RX5) (by decide +kernel)) (hts (.initialized RX5) (by decide +kernel)) (by decide +kernel) ⟨by decide, by decide⟩, hts (.static yX5_within) (by decide +kernel), trivial⟩ hK cd_P0 rfl hl.1 rfl (Nat.le_of_ble_eq_true rfl) dX0_isNumber_5 ⟨by decide, by decide⟩ ?_
  subst hex
  exact hret _ _ (nb_within _ _ _) dX0_isNumber_8

def rX0_oddOf : Room := { frames := 0, cells := 0, slots := 0, locals := 0 }
def sX0_oddOf (nu : Int32) : Int32 := (nu - nu / 5 * 5)
set_option maxHeartbeats 4000000 in
set_option maxRecDepth 100000 in
theorem kX0_oddOf (l : Launch) (dC : Nat → ClassId) (dI : Nat → Nat → Nat) (cI cQ cZ : ClassId) (nu : Int32) : Met l yX0_oddOf wsX0_oddOf rX0_oddOf (va_Pc [.int nu] (cd_rp dC dI cI cQ cZ [])) (vp_Si (fun r => r = sX0_oddOf nu)) 0 0 (fun _ => False) := by
  generalize hex : sX0_oddOf nu = ex
  unfold sX0_oddOf at hex
  refine cd_mRi [.int nu] (by decide) rfl (Nat.le_of_ble_eq_true rfl) ?_
  intro Q p e s m args below meth c ls hx hb hml hown hts hret ⟨hK, hP⟩ hl
  have hl : lv_has ls 1 [(0, .int nu)] := hl
  refine lv_iload_n hx hb dX0_oddOf_0 rfl (lv_at hl 0 rfl) ?_
  refine lv_iconst (v := 5) hx hb dX0_oddOf_1 (by decide) ?_
  refine lv_irem hx hb dX0_oddOf_2 (by decide) ?_
  subst hex
  exact hret _ _ dX0_oddOf_3

def rX0_leakOf : Room := { frames := 0, cells := 0, slots := 0, locals := 0 }
def sX0_leakOf (lk : Int32) (nu : Int32) : Int32 := (lk + (nu / 25))
set_option maxHeartbeats 4000000 in
set_option maxRecDepth 100000 in
theorem kX0_leakOf (l : Launch) (dC : Nat → ClassId) (dI : Nat → Nat → Nat) (cI cQ cZ : ClassId) (ad : Nat → Nat) (ag : Nat → Int32) (lo : Nat → Int32) (ch : Nat → Int32) (al : Nat → Int32) (an : Nat) (sh : Nat → Int32) (wa : Nat → Int32) (pl : Int32) (rm : Int32) (lk : Int32) (br : Int32) (row : Nat → Option Nat) (dn : Nat) (dy : Nat → Int32) (lv : Nat → Int32) (od : Nat → Int32) (sn : Nat) (L : List Nat) (pd : Nat → DT) (nu : Int32) : Met l yX0_leakOf wsX0_leakOf rX0_leakOf (va_Pc [.ref (ad 1), .int nu] (cd_rp dC dI cI cQ cZ (wKx cI cQ ad ag lo ch al an sh wa pl rm lk br row dn dy lv od sn ++ dpl L pd))) (vp_Si (fun r => r = sX0_leakOf lk nu)) 0 0 (fun _ => False) := by
  have hiX0 : ∀ w ∈ u_ws RX0 TX0 8, w ∈ wsX0_leakOf := by decide +kernel
  have hiX1 : ∀ w ∈ u_ws RX1 TX1 6, w ∈ wsX0_leakOf := by decide +kernel
  generalize hex : sX0_leakOf lk nu = ex
  unfold sX0_leakOf at hex
  refine cd_mRi [.ref (ad 1), .int nu] (by decide) rfl (Nat.le_of_ble_eq_true rfl) ?_
  intro Q p e s m args below meth c ls hx hb hml hown hts hret ⟨hK, hP⟩ hl
  have hl : lv_has ls 2 [(0, .ref (ad 1)), (1, .int nu)] := hl
  refine lv_aload_n hx hb dX0_leakOf_0 rfl (lv_at hl 0 rfl) ?_
  refine va_get (D := (dC, dI)) (ci := 0) (v := .ref (ad 6)) (C := RX0) (T := TX0) (N := 8) hx hb hts hiX0 hown hK.1 hP 0 rfl rfl 0 (by decide) (hts (.fieldLink RX0 30 "CellDays$Cases" "cell" "LCellDays$Cell;") (by decide +kernel)) (fun _ h9 => h9) rfl dX0_leakOf_1 ?_
  refine va_getN (D := (dC, dI)) (ci := 1) (v := .int lk) (C := RX1) (T := TX1) (N := 6) hx hb hts hiX1 hown hK.1 hP 5 rfl rfl 4 (by decide) (va_Nw.use rfl (hK.2.1 (.fieldLinkNest RX0 46 RX1 "leak" "I" RX5) (by decide +kernel))) (fun _ h9 => h9) rfl dX0_leakOf_4 ?_
  refine lv_iload_n hx hb dX0_leakOf_7 rfl (lv_at hl 1 rfl) ?_
  refine lv_bipush (v := 25) hx hb dX0_leakOf_8 (by decide) ?_
  refine lv_idiv hx hb dX0_leakOf_10 (by decide) ?_
  refine lv_iadd hx hb dX0_leakOf_11 ?_
  subst hex
  exact hret _ _ dX0_leakOf_12

def rX0_loadOfCase : Room := { frames := 3, cells := 0, slots := 0, locals := 70 }
def sX0_loadOfCase (br : Int32) (row : Nat → Option Nat) (dn : Nat) (pd : Nat → DT) (nu : Int32) : Int32 := ((sX2_loadOf row dn pd (sX2_setOfOn row dn pd) (((nu / 5) - (nu / 5) / 5 * 5) + 1) br) + (20 * (sX0_oddOf nu)))
set_option maxHeartbeats 4000000 in
set_option maxRecDepth 100000 in
theorem kX0_loadOfCase (l : Launch) (dC : Nat → ClassId) (dI : Nat → Nat → Nat) (cI cQ cZ : ClassId) (ad : Nat → Nat) (ag : Nat → Int32) (lo : Nat → Int32) (ch : Nat → Int32) (al : Nat → Int32) (an : Nat) (sh : Nat → Int32) (wa : Nat → Int32) (pl : Int32) (rm : Int32) (lk : Int32) (br : Int32) (row : Nat → Option Nat) (dn : Nat) (dy : Nat → Int32) (lv : Nat → Int32) (od : Nat → Int32) (sn : Nat) (L : List Nat) (pd : Nat → DT) (nu : Int32) (hdn : dn ≤ 8) (hrw : ∀ j y, row j = some y → y ∈ L) : Met l yX0_loadOfCase wsX0_loadOfCase rX0_loadOfCase (va_Pc [.ref (ad 1), .int nu] (cd_rp dC dI cI cQ cZ (wKx cI cQ ad ag lo ch al an sh wa pl rm lk br row dn dy lv od sn ++ dpl L pd))) (vp_Si (fun r => r = sX0_loadOfCase br row dn pd nu)) 0 0 (fun _ => False) := by
  have hiX0 : ∀ w ∈ u_ws RX0 TX0 8, w ∈ wsX0_loadOfCase := by decide +kernel
  have hiX1 : ∀ w ∈ u_ws RX1 TX1 6, w ∈ wsX0_loadOfCase := by decide +kernel
  generalize hex : sX0_loadOfCase br row dn pd nu = ex
  unfold sX0_loadOfCase at hex
  refine cd_mRi [.ref (ad 1), .int nu] (by decide) rfl (Nat.le_of_ble_eq_true rfl) ?_
  intro Q p e s m args below meth c ls hx hb hml hown hts hret ⟨hK, hP⟩ hl
  have hl : lv_has ls 3 [(0, .ref (ad 1)), (1, .int nu)] := hl
  refine lv_iload_n hx hb dX0_loadOfCase_0 rfl (lv_at hl 1 rfl) ?_
  refine lv_iconst (v := 5) hx hb dX0_loadOfCase_1 (by decide) ?_
  refine lv_idiv hx hb dX0_loadOfCase_2 (by decide) ?_
  refine lv_iconst (v := 5) hx hb dX0_loadOfCase_3 (by decide) ?_
  refine lv_irem hx hb dX0_loadOfCase_4 (by decide) ?_
  refine lv_iconst (v := 1) hx hb dX0_loadOfCase_5 (by decide) ?_
  refine lv_iadd hx hb dX0_loadOfCase_6 ?_
  refine lv_istore_n (lv' := [(2, .int (((nu / 5) - (nu / 5) / 5 * 5) + 1)), (0, .ref (ad 1)), (1, .int nu)]) hx hb dX0_loadOfCase_7 rfl hl (by decide) rfl (fun ls hl => ?_)
  refine lv_aload_n hx hb dX0_loadOfCase_8 rfl (lv_at hl 1 rfl) ?_
  refine va_get (D := (dC, dI)) (ci := 0) (v := .ref (ad 9)) (C := RX0) (T := TX0) (N := 8) hx hb hts hiX0 hown hK.1 hP 0 rfl rfl 1 (by decide) (hts (.fieldLink RX0 34 "CellDays$Cases" "duties" "LCellDays$Duties;") (by decide +kernel)) (fun _ h9 => h9) rfl dX0_loadOfCase_9 ?_
  refine lv_aload_n hx hb dX0_loadOfCase_12 rfl (lv_at hl 1 rfl) ?_
  refine va_get (D := (dC, dI)) (ci := 0) (v := .ref (ad 9)) (C := RX0) (T := TX0) (N := 8) hx hb hts hiX0 hown hK.1 hP 0 rfl rfl 1 (by decide) (hts (.fieldLink RX0 34 "CellDays$Cases" "duties" "LCellDays$Duties;") (by decide +kernel)) (fun _ h9 => h9) rfl dX0_loadOfCase_13 ?_
  refine cd_rV (As := []) (b := (ad 9)) (ci := 2) (q := (RX2, TX2, 2)) (rest := [.ref (ad 9)]) ⟨hx, hb, hml, hown, hts⟩ (kX2_setOfOn l dC dI cI cQ cZ (ad 9) (ad 10) row dn L pd hdn hrw) (cwV 0 hts gX0_loadOfCase_X2_setOfOn rfl rfl rfl (by decide +kernel) ⟨by decide, by decide⟩) hK (hP.part (cx := wDs cQ (ad 9) (ad 10) row dn) [8, 9] rfl) rfl rfl rfl hl.1 rfl (Nat.le_of_ble_eq_true rfl) dX0_loadOfCase_16 ⟨by decide, by decide⟩ ?_
  refine lv_iload_n hx hb dX0_loadOfCase_19 rfl (lv_at hl 0 rfl) ?_
  refine lv_aload_n hx hb dX0_loadOfCase_20 rfl (lv_at hl 1 rfl) ?_
  refine va_get (D := (dC, dI)) (ci := 0) (v := .ref (ad 6)) (C := RX0) (T := TX0) (N := 8) hx hb hts hiX0 hown hK.1 hP 0 rfl rfl 0 (by decide) (hts (.fieldLink RX0 30 "CellDays$Cases" "cell" "LCellDays$Cell;") (by decide +kernel)) (fun _ h9 => h9) rfl dX0_loadOfCase_21 ?_
  refine va_getN (D := (dC, dI)) (ci := 1) (v := .int br) (C := RX1) (T := TX1) (N := 6) hx hb hts hiX1 hown hK.1 hP 5 rfl rfl 5 (by decide) (va_Nw.use rfl (hK.2.1 (.fieldLinkNest RX0 55 RX1 "bar" "I" RX5) (by decide +kernel))) (fun _ h9 => h9) rfl dX0_loadOfCase_24 ?_
  refine cd_rV (As := [.int (sX2_setOfOn row dn pd), .int (((nu / 5) - (nu / 5) / 5 * 5) + 1), .int br]) (b := (ad 9)) (ci := 2) (q := (RX2, TX2, 2)) (rest := []) ⟨hx, hb, hml, hown, hts⟩ (kX2_loadOf l dC dI cI cQ cZ (ad 9) (ad 10) row dn L pd (sX2_setOfOn row dn pd) (((nu / 5) - (nu / 5) / 5 * 5) + 1) br hdn hrw) (cwV 3 hts gX0_loadOfCase_X2_loadOf rfl rfl rfl (by decide +kernel) ⟨by decide, by decide⟩) hK (hP.part (cx := wDs cQ (ad 9) (ad 10) row dn) [8, 9] rfl) rfl rfl rfl hl.1 rfl (Nat.le_of_ble_eq_true rfl) dX0_loadOfCase_27 ⟨by decide, by decide⟩ ?_
  refine lv_bipush (v := 20) hx hb dX0_loadOfCase_30 (by decide) ?_
  refine lv_iload_n hx hb dX0_loadOfCase_32 rfl (lv_at hl 2 rfl) ?_
  refine cd_rS (As := [.int nu]) (rest := [.int 20, .int (sX2_loadOf row dn pd (sX2_setOfOn row dn pd) (((nu / 5) - (nu / 5) / 5 * 5) + 1) br)]) ⟨hx, hb, hml, hown, hts⟩ (kX0_oddOf l dC dI cI cQ cZ nu) (va_cwS 1 hts gX0_loadOfCase_X0_oddOf rfl rfl rfl (by decide +kernel) ⟨by decide, by decide⟩) hK cd_P0 rfl hl.1 rfl (Nat.le_of_ble_eq_true rfl) dX0_loadOfCase_33 ⟨by decide, by decide⟩ ?_
  refine lv_imul hx hb dX0_loadOfCase_36 ?_
  refine lv_iadd hx hb dX0_loadOfCase_37 ?_
  subst hex
  exact hret _ _ dX0_loadOfCase_38

def rX0_levelAhead : Room := { frames := 4, cells := 0, slots := 0, locals := 93 }
def sX0_levelAhead (sh : Nat → Int32) (wa : Nat → Int32) (pl : Int32) (rm : Int32) (lk : Int32) (br : Int32) (row : Nat → Option Nat) (dn : Nat) (pd : Nat → DT) (nu : Int32) (dd : Int32) : Int32 := (sX1_levelOf rm (sX1_chargeAhead sh wa pl rm dd (sX0_leakOf lk nu) (sX0_loadOfCase br row dn pd nu)))
set_option maxHeartbeats 4000000 in
set_option maxRecDepth 100000 in
theorem kX0_levelAhead (l : Launch) (dC : Nat → ClassId) (dI : Nat → Nat → Nat) (cI cQ cZ : ClassId) (ad : Nat → Nat) (ag : Nat → Int32) (lo : Nat → Int32) (ch : Nat → Int32) (al : Nat → Int32) (an : Nat) (sh : Nat → Int32) (wa : Nat → Int32) (pl : Int32) (rm : Int32) (lk : Int32) (br : Int32) (row : Nat → Option Nat) (dn : Nat) (dy : Nat → Int32) (lv : Nat → Int32) (od : Nat → Int32) (sn : Nat) (L : List Nat) (pd : Nat → DT) (nu : Int32) (dd : Int32) (hdn : dn ≤ 8) (hrw : ∀ j y, row j = some y → y ∈ L) (ht : dd.toInt ≤ 400) : Met l yX0_levelAhead wsX0_levelAhead rX0_levelAhead (va_Pc [.ref (ad 1), .int nu, .int dd] (cd_rp dC dI cI cQ cZ (wKx cI cQ ad ag lo ch al an sh wa pl rm lk br row dn dy lv od sn ++ dpl L pd))) (vp_Si (fun r => r = sX0_levelAhead sh wa pl rm lk br row dn pd nu dd)) 0 0 (fun _ => False) := by
  have hiX0 : ∀ w ∈ u_ws RX0 TX0 8, w ∈ wsX0_levelAhead := by decide +kernel
  generalize hex : sX0_levelAhead sh wa pl rm lk br row dn pd nu dd = ex
  unfold sX0_levelAhead at hex
  refine cd_mRi [.ref (ad 1), .int nu, .int dd] (by decide) rfl (Nat.le_of_ble_eq_true rfl) ?_
  intro Q p e s m args below meth c ls hx hb hml hown hts hret ⟨hK, hP⟩ hl
  have hl : lv_has ls 3 [(0, .ref (ad 1)), (1, .int nu), (2, .int dd)] := hl
  refine lv_aload_n hx hb dX0_levelAhead_0 rfl (lv_at hl 0 rfl) ?_
  refine va_get (D := (dC, dI)) (ci := 0) (v := .ref (ad 6)) (C := RX0) (T := TX0) (N := 8) hx hb hts hiX0 hown hK.1 hP 0 rfl rfl 0 (by decide) (hts (.fieldLink RX0 30 "CellDays$Cases" "cell" "LCellDays$Cell;") (by decide +kernel)) (fun _ h9 => h9) rfl dX0_levelAhead_1 ?_
  refine lv_aload_n hx hb dX0_levelAhead_4 rfl (lv_at hl 0 rfl) ?_
  refine va_get (D := (dC, dI)) (ci := 0) (v := .ref (ad 6)) (C := RX0) (T := TX0) (N := 8) hx hb hts hiX0 hown hK.1 hP 0 rfl rfl 0 (by decide) (hts (.fieldLink RX0 30 "CellDays$Cases" "cell" "LCellDays$Cell;") (by decide +kernel)) (fun _ h9 => h9) rfl dX0_levelAhead_5 ?_
  refine lv_iload_n hx hb dX0_levelAhead_8 rfl (lv_at hl 2 rfl) ?_
  refine lv_aload_n hx hb dX0_levelAhead_9 rfl (lv_at hl 0 rfl) ?_
  refine lv_iload_n hx hb dX0_levelAhead_10 rfl (lv_at hl 1 rfl) ?_
  refine cd_rV (As := [.int nu]) (b := (ad 1)) (ci := 0) (q := (RX0, TX0, 8)) (rest := [.int dd, .ref (ad 6), .ref (ad 6)]) ⟨hx, hb, hml, hown, hts⟩ (kX0_leakOf l dC dI cI cQ cZ ad ag lo ch al an sh wa pl rm lk br row dn dy lv od sn L pd nu) (cwV 1 hts gX0_levelAhead_X0_leakOf rfl rfl rfl (by decide +kernel) ⟨by decide, by decide⟩) hK hP rfl rfl rfl hl.1 rfl (Nat.le_of_ble_eq_true rfl) dX0_levelAhead_11 ⟨by decide, by decide⟩ ?_
  refine lv_aload_n hx hb dX0_levelAhead_14 rfl (lv_at hl 0 rfl) ?_
  refine lv_iload_n hx hb dX0_levelAhead_15 rfl (lv_at hl 1 rfl) ?_
  refine cd_rV (As := [.int nu]) (b := (ad 1)) (ci := 0) (q := (RX0, TX0, 8)) (rest := [.int (sX0_leakOf lk nu), .int dd, .ref (ad 6), .ref (ad 6)]) ⟨hx, hb, hml, hown, hts⟩ (kX0_loadOfCase l dC dI cI cQ cZ ad ag lo ch al an sh wa pl rm lk br row dn dy lv od sn L pd nu hdn hrw) (cwV 1 hts gX0_levelAhead_X0_loadOfCase rfl rfl rfl (by decide +kernel) ⟨by decide, by decide⟩) hK hP rfl rfl rfl hl.1 rfl (Nat.le_of_ble_eq_true rfl) dX0_levelAhead_16 ⟨by decide, by decide⟩ ?_
  refine cd_rV (As := [.int dd, .int (sX0_leakOf lk nu), .int (sX0_loadOfCase br row dn pd nu)]) (b := (ad 6)) (ci := 1) (q := (RX1, TX1, 6)) (rest := [.ref (ad 6)]) ⟨hx, hb, hml, hown, hts⟩ (kX1_chargeAhead l dC dI cI cQ cZ (ad 6) (ad 7) (ad 8) sh wa pl rm lk br dd (sX0_leakOf lk nu) (sX0_loadOfCase br row dn pd nu) ht) (cwV 3 hts gX0_levelAhead_X1_chargeAhead rfl rfl rfl (by decide +kernel) ⟨by decide, by decide⟩) hK (hP.sub (ws' := (wCl cI (ad 6) (ad 7) (ad 8) sh wa pl rm lk br)) [5, 6, 7] rfl) rfl rfl rfl hl.1 rfl (Nat.le_of_ble_eq_true rfl) dX0_levelAhead_19 ⟨by decide, by decide⟩ ?_
  refine cd_rV (As := [.int (sX1_chargeAhead sh wa pl rm dd (sX0_leakOf lk nu) (sX0_loadOfCase br row dn pd nu))]) (b := (ad 6)) (ci := 1) (q := (RX1, TX1, 6)) (rest := []) ⟨hx, hb, hml, hown, hts⟩ (kX1_levelOf l dC dI cI cQ cZ (ad 6) (ad 7) (ad 8) sh wa pl rm lk br (sX1_chargeAhead sh wa pl rm dd (sX0_leakOf lk nu) (sX0_loadOfCase br row dn pd nu))) (cwV 1 hts gX0_levelAhead_X1_levelOf rfl rfl rfl (by decide +kernel) ⟨by decide, by decide⟩) hK (hP.sub (ws' := (wCl cI (ad 6) (ad 7) (ad 8) sh wa pl rm lk br)) [5, 6, 7] rfl) rfl rfl rfl hl.1 rfl (Nat.le_of_ble_eq_true rfl) dX0_levelAhead_22 ⟨by decide, by decide⟩ ?_
  subst hex
  exact hret _ _ dX0_levelAhead_25

theorem at_b {n : Nat} {f : Nat → Int32} {i : Int32} (h : ∀ j, 0 ≤ (f j).toInt ∧ (f j).toInt ≤ 399) : 0 ≤ (sX5_at n f i).toInt ∧ (sX5_at n f i).toInt ≤ 399 := by
  unfold sX5_at
  split
  · decide
  · split
    · decide
    · exact h _
theorem dio_b {dy od : Nat → Int32} {i : Int32} (h : ∀ j, 0 ≤ (dy j).toInt ∧ (dy j).toInt ≤ 399) : 0 ≤ (sX4_dayInOrder dy od i).toInt ∧ (sX4_dayInOrder dy od i).toInt ≤ 399 := at_b h

def rX0_fitsSigns : Room := { frames := 4, cells := 0, slots := 0, locals := 92 }
def sX0_fitsSigns_L27 (sh : Nat → Int32) (wa : Nat → Int32) (pl : Int32) (rm : Int32) (dy : Nat → Int32) (lv : Nat → Int32) (od : Nat → Int32) (sn : Nat) : Nat → Int32 → Int32 → Int32 → Int32 → Nat → Int32
  | 0, le, ldd, lf, dd, k => 0
  | n + 1, le, ldd, lf, dd, k => (if (nI sn) ≤ (nI k) then 1 else (if (sX1_levelOf rm (sX1_chargeFrom sh wa pl lf dd (sX4_dayInOrder dy od (nI k)) le ldd)) = (sX4_levelInOrder lv od (nI k)) then sX0_fitsSigns_L27 sh wa pl rm dy lv od sn n le ldd (sX1_chargeFrom sh wa pl lf dd (sX4_dayInOrder dy od (nI k)) le ldd) (sX4_dayInOrder dy od (nI k)) (k + 1) else 0))
def sX0_fitsSigns (sh : Nat → Int32) (wa : Nat → Int32) (pl : Int32) (rm : Int32) (lk : Int32) (br : Int32) (row : Nat → Option Nat) (dn : Nat) (dy : Nat → Int32) (lv : Nat → Int32) (od : Nat → Int32) (sn : Nat) (pd : Nat → DT) (nu : Int32) : Int32 := sX0_fitsSigns_L27 sh wa pl rm dy lv od sn 13 (sX0_leakOf lk nu) (sX0_loadOfCase br row dn pd nu) (sX1_chargeAtFirst rm) 0 0
set_option maxHeartbeats 4000000 in
set_option maxRecDepth 100000 in
theorem kX0_fitsSigns (l : Launch) (dC : Nat → ClassId) (dI : Nat → Nat → Nat) (cI cQ cZ : ClassId) (ad : Nat → Nat) (ag : Nat → Int32) (lo : Nat → Int32) (ch : Nat → Int32) (al : Nat → Int32) (an : Nat) (sh : Nat → Int32) (wa : Nat → Int32) (pl : Int32) (rm : Int32) (lk : Int32) (br : Int32) (row : Nat → Option Nat) (dn : Nat) (dy : Nat → Int32) (lv : Nat → Int32) (od : Nat → Int32) (sn : Nat) (L : List Nat) (pd : Nat → DT) (nu : Int32) (hdn : dn ≤ 8) (hrw : ∀ j y, row j = some y → y ∈ L) (hsn : sn ≤ 12) (hdy : ∀ j, 0 ≤ (dy j).toInt ∧ (dy j).toInt ≤ 399) : Met l yX0_fitsSigns wsX0_fitsSigns rX0_fitsSigns (va_Pc [.ref (ad 1), .int nu] (cd_rp dC dI cI cQ cZ (wKx cI cQ ad ag lo ch al an sh wa pl rm lk br row dn dy lv od sn ++ dpl L pd))) (vp_Si (fun r => r = sX0_fitsSigns sh wa pl rm lk br row dn dy lv od sn pd nu)) 0 0 (fun _ => False) := by
  have hiX0 : ∀ w ∈ u_ws RX0 TX0 8, w ∈ wsX0_fitsSigns := by decide +kernel
  have hiX4 : ∀ w ∈ u_ws RX4 TX4 4, w ∈ wsX0_fitsSigns := by decide +kernel
  generalize hex : sX0_fitsSigns sh wa pl rm lk br row dn dy lv od sn pd nu = ex
  unfold sX0_fitsSigns at hex
  refine cd_mRz [.ref (ad 1), .int nu] (by decide) rfl (Nat.le_of_ble_eq_true rfl) ?_
  intro Q p e s m args below meth c ls hx hb hml hown hts hret ⟨hK, hP⟩ hl
  have hl : lv_has ls 8 [(0, .ref (ad 1)), (1, .int nu)] := hl
  refine lv_aload_n hx hb dX0_fitsSigns_0 rfl (lv_at hl 0 rfl) ?_
  refine lv_iload_n hx hb dX0_fitsSigns_1 rfl (lv_at hl 1 rfl) ?_
  refine cd_rV (As := [.int nu]) (b := (ad 1)) (ci := 0) (q := (RX0, TX0, 8)) (rest := []) ⟨hx, hb, hml, hown, hts⟩ (kX0_leakOf l dC dI cI cQ cZ ad ag lo ch al an sh wa pl rm lk br row dn dy lv od sn L pd nu) (cwV 1 hts gX0_fitsSigns_X0_leakOf rfl rfl rfl (by decide +kernel) ⟨by decide, by decide⟩) hK hP rfl rfl rfl hl.1 rfl (Nat.le_of_ble_eq_true rfl) dX0_fitsSigns_2 ⟨by decide, by decide⟩ ?_
  refine lv_istore_n (lv' := [(2, .int (sX0_leakOf lk nu)), (0, .ref (ad 1)), (1, .int nu)]) hx hb dX0_fitsSigns_5 rfl hl (by decide) rfl (fun ls hl => ?_)
  refine lv_aload_n hx hb dX0_fitsSigns_6 rfl (lv_at hl 1 rfl) ?_
  refine lv_iload_n hx hb dX0_fitsSigns_7 rfl (lv_at hl 2 rfl) ?_
  refine cd_rV (As := [.int nu]) (b := (ad 1)) (ci := 0) (q := (RX0, TX0, 8)) (rest := []) ⟨hx, hb, hml, hown, hts⟩ (kX0_loadOfCase l dC dI cI cQ cZ ad ag lo ch al an sh wa pl rm lk br row dn dy lv od sn L pd nu hdn hrw) (cwV 1 hts gX0_fitsSigns_X0_loadOfCase rfl rfl rfl (by decide +kernel) ⟨by decide, by decide⟩) hK hP rfl rfl rfl hl.1 rfl (Nat.le_of_ble_eq_true rfl) dX0_fitsSigns_8 ⟨by decide, by decide⟩ ?_
  refine lv_istore_n (lv' := [(3, .int (sX0_loadOfCase br row dn pd nu)), (2, .int (sX0_leakOf lk nu)), (0, .ref (ad 1)), (1, .int nu)]) hx hb dX0_fitsSigns_11 rfl hl (by decide) rfl (fun ls hl => ?_)
  refine lv_aload_n hx hb dX0_fitsSigns_12 rfl (lv_at hl 2 rfl) ?_
  refine va_get (D := (dC, dI)) (ci := 0) (v := .ref (ad 6)) (C := RX0) (T := TX0) (N := 8) hx hb hts hiX0 hown hK.1 hP 0 rfl rfl 0 (by decide) (hts (.fieldLink RX0 30 "CellDays$Cases" "cell" "LCellDays$Cell;") (by decide +kernel)) (fun _ h9 => h9) rfl dX0_fitsSigns_13 ?_
  refine cd_rV (As := []) (b := (ad 6)) (ci := 1) (q := (RX1, TX1, 6)) (rest := []) ⟨hx, hb, hml, hown, hts⟩ (kX1_chargeAtFirst l dC dI cI cQ cZ (ad 6) (ad 7) (ad 8) sh wa pl rm lk br) (cwV 0 hts gX0_fitsSigns_X1_chargeAtFirst rfl rfl rfl (by decide +kernel) ⟨by decide, by decide⟩) hK (hP.sub (ws' := (wCl cI (ad 6) (ad 7) (ad 8) sh wa pl rm lk br)) [5, 6, 7] rfl) rfl rfl rfl hl.1 rfl (Nat.le_of_ble_eq_true rfl) dX0_fitsSigns_16 ⟨by decide, by decide⟩ ?_
  refine lv_istore (lv' := [(4, .int (sX1_chargeAtFirst rm)), (3, .int (sX0_loadOfCase br row dn pd nu)), (2, .int (sX0_leakOf lk nu)), (0, .ref (ad 1)), (1, .int nu)]) hx hb dX0_fitsSigns_19 hl (by decide) rfl (fun ls hl => ?_)
  refine lv_iconst (v := 0) hx hb dX0_fitsSigns_21 (by decide) ?_
  refine lv_istore (lv' := [(5, .int 0), (4, .int (sX1_chargeAtFirst rm)), (3, .int (sX0_loadOfCase br row dn pd nu)), (2, .int (sX0_leakOf lk nu)), (0, .ref (ad 1)), (1, .int nu)]) hx hb dX0_fitsSigns_22 hl (by decide) rfl (fun ls hl => ?_)
  refine lv_iconst (v := 0) hx hb dX0_fitsSigns_24 (by decide) ?_
  refine lv_istore (lv' := [(6, .int 0), (5, .int 0), (4, .int (sX1_chargeAtFirst rm)), (3, .int (sX0_loadOfCase br row dn pd nu)), (2, .int (sX0_leakOf lk nu)), (0, .ref (ad 1)), (1, .int nu)]) hx hb dX0_fitsSigns_25 hl (by decide) rfl (fun ls hl => ?_)
  have L27 : ∀ (n : Nat) (le : Int32) (ldd : Int32) (lf : Int32) (dd : Int32) (k : Nat), (k ≤ 12) → (0 ≤ dd.toInt) → (dd.toInt ≤ 400) → 12 - k < n → sX0_fitsSigns_L27 sh wa pl rm dy lv od sn n le ldd lf dd k = ex → ∀ (ls : Array Slot), lv_has ls 8 [(6, .int (nI k)), (5, .int dd), (4, .int lf), (3, .int ldd), (2, .int le), (0, .ref (ad 1)), (1, .int nu)] → W p l e rX0_fitsSigns s m args below meth c s.heap [] 0 0 Q (F0 m 27 ls []) := by
    intro n
    induction n with
    | zero => intro le ldd lf dd k hk hd0 hd1 hm; exact absurd hm (Nat.not_lt_zero _)
    | succ n ih =>
      intro le ldd lf dd k hk hd0 hd1 hm hex ls hl
      rw [sX0_fitsSigns_L27] at hex
      refine lv_iload hx hb dX0_fitsSigns_27 (lv_at hl 0 rfl) ?_
      refine lv_aload_n hx hb dX0_fitsSigns_29 rfl (lv_at hl 5 rfl) ?_
      refine va_get (D := (dC, dI)) (ci := 0) (v := .ref (ad 11)) (C := RX0) (T := TX0) (N := 8) hx hb hts hiX0 hown hK.1 hP 0 rfl rfl 2 (by decide) (hts (.fieldLink RX0 38 "CellDays$Cases" "signs" "LCellDays$Signs;") (by decide +kernel)) (fun _ h9 => h9) rfl dX0_fitsSigns_30 ?_
      refine va_getN (D := (dC, dI)) (ci := 4) (v := .int (nI sn)) (C := RX4) (T := TX4) (N := 4) hx hb hts hiX4 hown hK.1 hP 10 rfl rfl 3 (by decide) (va_Nw.use rfl (hK.2.1 (.fieldLinkNest RX0 81 RX4 "size" "I" RX5) (by decide +kernel))) (fun _ h9 => h9) rfl dX0_fitsSigns_33 ?_
      refine lv_icmp_ge (tgt := 100) hx hb dX0_fitsSigns_36 (by decide) (fun c_1 => ?_) (fun c_1 => ?_)
      · rw [if_pos c_1] at hex
        try have n_1 : sn ≤ k := (nI_leI (a := sn) (b := k) (by omega) (by omega)).mp c_1
        refine lv_iconst (v := 1) hx hb dX0_fitsSigns_100 (by decide) ?_
        subst hex
        exact hret _ _ rfl dX0_fitsSigns_101
      · rw [if_neg c_1] at hex
        try have n_1 : ¬ sn ≤ k := fun h9 => c_1 ((nI_leI (a := sn) (b := k) (by omega) (by omega)).mpr h9)
        refine lv_aload_n hx hb dX0_fitsSigns_39 rfl (lv_at hl 5 rfl) ?_
        refine va_get (D := (dC, dI)) (ci := 0) (v := .ref (ad 11)) (C := RX0) (T := TX0) (N := 8) hx hb hts hiX0 hown hK.1 hP 0 rfl rfl 2 (by decide) (hts (.fieldLink RX0 38 "CellDays$Cases" "signs" "LCellDays$Signs;") (by decide +kernel)) (fun _ h9 => h9) rfl dX0_fitsSigns_40 ?_
        refine lv_iload hx hb dX0_fitsSigns_43 (lv_at hl 0 rfl) ?_
        refine cd_rV (As := [.int (nI k)]) (b := (ad 11)) (ci := 4) (q := (RX4, TX4, 4)) (rest := []) ⟨hx, hb, hml, hown, hts⟩ (kX4_dayInOrder l dC dI cI cQ cZ (ad 11) (ad 12) (ad 13) (ad 14) dy lv od sn (nI k)) (cwV 1 hts gX0_fitsSigns_X4_dayInOrder rfl rfl rfl (by decide +kernel) ⟨by decide, by decide⟩) hK (hP.sub (ws' := (wSg cI (ad 11) (ad 12) (ad 13) (ad 14) dy lv od sn)) [10, 11, 12, 13] rfl) rfl rfl rfl hl.1 rfl (Nat.le_of_ble_eq_true rfl) dX0_fitsSigns_45 ⟨by decide, by decide⟩ ?_
        refine lv_istore (lv' := [(7, .int (sX4_dayInOrder dy od (nI k))), (6, .int (nI k)), (5, .int dd), (4, .int lf), (3, .int ldd), (2, .int le), (0, .ref (ad 1)), (1, .int nu)]) hx hb dX0_fitsSigns_48 hl (by decide) rfl (fun ls hl => ?_)
        refine lv_aload_n hx hb dX0_fitsSigns_50 rfl (lv_at hl 6 rfl) ?_
        refine va_get (D := (dC, dI)) (ci := 0) (v := .ref (ad 6)) (C := RX0) (T := TX0) (N := 8) hx hb hts hiX0 hown hK.1 hP 0 rfl rfl 0 (by decide) (hts (.fieldLink RX0 30 "CellDays$Cases" "cell" "LCellDays$Cell;") (by decide +kernel)) (fun _ h9 => h9) rfl dX0_fitsSigns_51 ?_
        refine lv_iload hx hb dX0_fitsSigns_54 (lv_at hl 3 rfl) ?_
        refine lv_iload hx hb dX0_fitsSigns_56 (lv_at hl 2 rfl) ?_
        refine lv_iload hx hb dX0_fitsSigns_58 (lv_at hl 0 rfl) ?_
        refine lv_iload_n hx hb dX0_fitsSigns_60 rfl (lv_at hl 5 rfl) ?_
        refine lv_iload_n hx hb dX0_fitsSigns_61 rfl (lv_at hl 4 rfl) ?_
        refine cd_rV (As := [.int lf, .int dd, .int (sX4_dayInOrder dy od (nI k)), .int le, .int ldd]) (b := (ad 6)) (ci := 1) (q := (RX1, TX1, 6)) (rest := []) ⟨hx, hb, hml, hown, hts⟩ (kX1_chargeFrom l dC dI cI cQ cZ (ad 6) (ad 7) (ad 8) sh wa pl rm lk br lf dd (sX4_dayInOrder dy od (nI k)) le ldd hd0 hd1 (by have := (dio_b (od := od) (i := nI k) hdy).2; omega)) (cwV 5 hts gX0_fitsSigns_X1_chargeFrom rfl rfl rfl (by decide +kernel) ⟨by decide, by decide⟩) hK (hP.sub (ws' := (wCl cI (ad 6) (ad 7) (ad 8) sh wa pl rm lk br)) [5, 6, 7] rfl) rfl rfl rfl hl.1 rfl (Nat.le_of_ble_eq_true rfl) dX0_fitsSigns_62 ⟨by decide, by decide⟩ ?_
        refine lv_istore (lv' := [(4, .int (sX1_chargeFrom sh wa pl lf dd (sX4_dayInOrder dy od (nI k)) le ldd)), (7, .int (sX4_dayInOrder dy od (nI k))), (6, .int (nI k)), (5, .int dd), (3, .int ldd), (2, .int le), (0, .ref (ad 1)), (1, .int nu)]) hx hb dX0_fitsSigns_65 hl (by decide) rfl (fun ls hl => ?_)
        refine lv_iload hx hb dX0_fitsSigns_67 (lv_at hl 1 rfl) ?_
        refine lv_istore (lv' := [(5, .int (sX4_dayInOrder dy od (nI k))), (4, .int (sX1_chargeFrom sh wa pl lf dd (sX4_dayInOrder dy od (nI k)) le ldd)), (7, .int (sX4_dayInOrder dy od (nI k))), (6, .int (nI k)), (3, .int ldd), (2, .int le), (0, .ref (ad 1)), (1, .int nu)]) hx hb dX0_fitsSigns_69 hl (by decide) rfl (fun ls hl => ?_)
        refine lv_aload_n hx hb dX0_fitsSigns_71 rfl (lv_at hl 6 rfl) ?_
        refine va_get (D := (dC, dI)) (ci := 0) (v := .ref (ad 6)) (C := RX0) (T := TX0) (N := 8) hx hb hts hiX0 hown hK.1 hP 0 rfl rfl 0 (by decide) (hts (.fieldLink RX0 30 "CellDays$Cases" "cell" "LCellDays$Cell;") (by decide +kernel)) (fun _ h9 => h9) rfl dX0_fitsSigns_72 ?_
        refine lv_iload hx hb dX0_fitsSigns_75 (lv_at hl 1 rfl) ?_
        refine cd_rV (As := [.int (sX1_chargeFrom sh wa pl lf dd (sX4_dayInOrder dy od (nI k)) le ldd)]) (b := (ad 6)) (ci := 1) (q := (RX1, TX1, 6)) (rest := []) ⟨hx, hb, hml, hown, hts⟩ (kX1_levelOf l dC dI cI cQ cZ (ad 6) (ad 7) (ad 8) sh wa pl rm lk br (sX1_chargeFrom sh wa pl lf dd (sX4_dayInOrder dy od (nI k)) le ldd)) (cwV 1 hts gX0_fitsSigns_X1_levelOf rfl rfl rfl (by decide +kernel) ⟨by decide, by decide⟩) hK (hP.sub (ws' := (wCl cI (ad 6) (ad 7) (ad 8) sh wa pl rm lk br)) [5, 6, 7] rfl) rfl rfl rfl hl.1 rfl (Nat.le_of_ble_eq_true rfl) dX0_fitsSigns_77 ⟨by decide, by decide⟩ ?_
        refine lv_aload_n hx hb dX0_fitsSigns_80 rfl (lv_at hl 6 rfl) ?_
        refine va_get (D := (dC, dI)) (ci := 0) (v := .ref (ad 11)) (C := RX0) (T := TX0) (N := 8) hx hb hts hiX0 hown hK.1 hP 0 rfl rfl 2 (by decide) (hts (.fieldLink RX0 38 "CellDays$Cases" "signs" "LCellDays$Signs;") (by decide +kernel)) (fun _ h9 => h9) rfl dX0_fitsSigns_81 ?_
        refine lv_iload hx hb dX0_fitsSigns_84 (lv_at hl 3 rfl) ?_
        refine cd_rV (As := [.int (nI k)]) (b := (ad 11)) (ci := 4) (q := (RX4, TX4, 4)) (rest := [.int (sX1_levelOf rm (sX1_chargeFrom sh wa pl lf dd (sX4_dayInOrder dy od (nI k)) le ldd))]) ⟨hx, hb, hml, hown, hts⟩ (kX4_levelInOrder l dC dI cI cQ cZ (ad 11) (ad 12) (ad 13) (ad 14) dy lv od sn (nI k)) (cwV 1 hts gX0_fitsSigns_X4_levelInOrder rfl rfl rfl (by decide +kernel) ⟨by decide, by decide⟩) hK (hP.sub (ws' := (wSg cI (ad 11) (ad 12) (ad 13) (ad 14) dy lv od sn)) [10, 11, 12, 13] rfl) rfl rfl rfl hl.1 rfl (Nat.le_of_ble_eq_true rfl) dX0_fitsSigns_86 ⟨by decide, by decide⟩ ?_
        refine lv_icmp_eq (tgt := 94) hx hb dX0_fitsSigns_89 (by decide) (fun c_2 => ?_) (fun c_2 => ?_)
        · rw [if_pos c_2] at hex
          refine lv_iinc (v := nI (k + 1)) (lv' := [(6, .int (nI (k + 1))), (5, .int (sX4_dayInOrder dy od (nI k))), (4, .int (sX1_chargeFrom sh wa pl lf dd (sX4_dayInOrder dy od (nI k)) le ldd)), (7, .int (sX4_dayInOrder dy od (nI k))), (3, .int ldd), (2, .int le), (0, .ref (ad 1)), (1, .int nu)]) hx hb dX0_fitsSigns_94 hl (k := 3) rfl (nI_1 k) (by decide) rfl (fun ls hl => ?_)
          refine lv_goto (tgt := 27) hx hb dX0_fitsSigns_97 (by decide) ?_
          exact ih le ldd (sX1_chargeFrom sh wa pl lf dd (sX4_dayInOrder dy od (nI k)) le ldd) (sX4_dayInOrder dy od (nI k)) (k + 1) (by omega) ((dio_b hdy).1) (by have := (dio_b (od := od) (i := nI k) hdy).2; omega) (by omega) hex _ (lv_sub hl [0, 1, 2, 4, 5, 6, 7] rfl)
        · rw [if_neg c_2] at hex
          refine lv_iconst (v := 0) hx hb dX0_fitsSigns_92 (by decide) ?_
          subst hex
          exact hret _ _ rfl dX0_fitsSigns_93
  exact L27 13 (sX0_leakOf lk nu) (sX0_loadOfCase br row dn pd nu) (sX1_chargeAtFirst rm) 0 0 (by decide) (by decide) (by decide) (by decide) hex _ (lv_sub hl [0, 1, 2, 3, 4, 5, 6] rfl)

def rX0_gatherAgreeing : Room := { frames := 5, cells := 0, slots := 0, locals := 119 }
def sX0_gatherAgreeing_L7 (sh : Nat → Int32) (wa : Nat → Int32) (pl : Int32) (rm : Int32) (lk : Int32) (br : Int32) (row : Nat → Option Nat) (dn : Nat) (dy : Nat → Int32) (lv : Nat → Int32) (od : Nat → Int32) (sn : Nat) (pd : Nat → DT) : Nat → Nat → (Nat → Int32) → Nat → (Nat → Int32) × (Nat)
  | 0, k, agv, anv => ((fun _ => 0), 0)
  | n + 1, k, agv, anv => (if 150 ≤ (nI k) then (agv, anv) else (if (sX0_fitsSigns sh wa pl rm lk br row dn dy lv od sn pd (nI k)) = 0 then sX0_gatherAgreeing_L7 sh wa pl rm lk br row dn dy lv od sn pd n (k + 1) agv anv else sX0_gatherAgreeing_L7 sh wa pl rm lk br row dn dy lv od sn pd n (k + 1) (sX5_put 150 agv (nI anv) (nI k)) (anv + 1)))
def sX0_gatherAgreeing (ag : Nat → Int32) (sh : Nat → Int32) (wa : Nat → Int32) (pl : Int32) (rm : Int32) (lk : Int32) (br : Int32) (row : Nat → Option Nat) (dn : Nat) (dy : Nat → Int32) (lv : Nat → Int32) (od : Nat → Int32) (sn : Nat) (pd : Nat → DT) : (Nat → Int32) × (Nat) := sX0_gatherAgreeing_L7 sh wa pl rm lk br row dn dy lv od sn pd 151 0 ag 0
set_option maxHeartbeats 4000000 in
set_option maxRecDepth 100000 in
theorem kX0_gatherAgreeing (l : Launch) (dC : Nat → ClassId) (dI : Nat → Nat → Nat) (cI cQ cZ : ClassId) (ad : Nat → Nat) (ag : Nat → Int32) (lo : Nat → Int32) (ch : Nat → Int32) (al : Nat → Int32) (an : Nat) (sh : Nat → Int32) (wa : Nat → Int32) (pl : Int32) (rm : Int32) (lk : Int32) (br : Int32) (row : Nat → Option Nat) (dn : Nat) (dy : Nat → Int32) (lv : Nat → Int32) (od : Nat → Int32) (sn : Nat) (L : List Nat) (pd : Nat → DT) (sz : Nat) (hdn : dn ≤ 8) (hrw : ∀ j y, row j = some y → y ∈ L) (hsn : sn ≤ 12) (hdy : ∀ j, 0 ≤ (dy j).toInt ∧ (dy j).toInt ≤ 399) : Met l yX0_gatherAgreeing wsX0_gatherAgreeing rX0_gatherAgreeing (va_Pc [.ref (ad 1)] (cd_pre dC dI cI cQ cZ (wKx cI cQ ad ag lo ch al an sh wa pl rm lk br row dn dy lv od sn ++ dpl L pd) sz)) (va_Qv (fun _ => True) (cd_post dC dI (wKx cI cQ ad ag lo ch al an sh wa pl rm lk br row dn dy lv od sn ++ dpl L pd) (wKx cI cQ ad ((sX0_gatherAgreeing ag sh wa pl rm lk br row dn dy lv od sn pd).1) lo ch al ((sX0_gatherAgreeing ag sh wa pl rm lk br row dn dy lv od sn pd).2) sh wa pl rm lk br row dn dy lv od sn ++ dpl L pd) sz) (va_A (wKx cI cQ ad ag lo ch al an sh wa pl rm lk br row dn dy lv od sn ++ dpl L pd) sz)) 0 0 (va_A (wKx cI cQ ad ag lo ch al an sh wa pl rm lk br row dn dy lv od sn ++ dpl L pd) sz) := by
  have hiX0 : ∀ w ∈ u_ws RX0 TX0 8, w ∈ wsX0_gatherAgreeing := by decide +kernel
  generalize hex : sX0_gatherAgreeing ag sh wa pl rm lk br row dn dy lv od sn pd = ex
  unfold sX0_gatherAgreeing at hex
  refine cd_mMv [.ref (ad 1)] (by decide) rfl (Nat.le_of_ble_eq_true rfl) ?_
  intro Q A p e s m args below meth c ls hx hb hml hown hts hA hinit hret hK hP hD hS hl
  have hl : lv_has ls 2 [(0, .ref (ad 1))] := hl
  refine lv_aload_n hx hb dX0_gatherAgreeing_0 rfl (lv_at hl 0 rfl) ?_
  refine lv_iconst (v := 0) hx hb dX0_gatherAgreeing_1 (by decide) ?_
  refine va_put (D := (dC, dI)) (ci := 0) (v := .int 0) (ty := .int) (C := RX0) (T := TX0) (N := 8) hx hb hts hiX0 tyX0 tyX0_ok nmX0 hown hK.1 hP hD hS 0 rfl rfl 7 (by decide) (hts (.fieldLink RX0 26 "CellDays$Cases" "agreed" "I") (by decide +kernel)) (fun _ h9 => h9) rfl (by decide +kernel) (rfl) (rfl) (Nat.le_of_ble_eq_true rfl) dX0_gatherAgreeing_2 (fun H locs hP hD hS => ?_)
  have hP : va_P (dC, dI) vwCl (wKx cI cQ ad ag lo ch al 0 sh wa pl rm lk br row dn dy lv od sn ++ dpl L pd) H := hP
  have hD : va_D A (wKx cI cQ ad ag lo ch al 0 sh wa pl rm lk br row dn dy lv od sn ++ dpl L pd) := hD
  refine lv_iconst (v := 0) hx hb dX0_gatherAgreeing_5 (by decide) ?_
  refine lv_istore_n (lv' := [(1, .int 0), (0, .ref (ad 1))]) hx hb dX0_gatherAgreeing_6 rfl hl (by decide) rfl (fun ls hl => ?_)
  have L7 : ∀ (n : Nat) (k : Nat) (agv : Nat → Int32) (anv : Nat), (k ≤ 150) → 150 - k < n → sX0_gatherAgreeing_L7 sh wa pl rm lk br row dn dy lv od sn pd n k agv anv = ex → ∀ (ls : Array Slot) (H : Heap) (locs : List Loc), lv_has ls 2 [(1, .int (nI k)), (0, .ref (ad 1))] → va_P (dC, dI) vwCl (wKx cI cQ ad agv lo ch al anv sh wa pl rm lk br row dn dy lv od sn ++ dpl L pd) H → va_D A (wKx cI cQ ad agv lo ch al anv sh wa pl rm lk br row dn dy lv od sn ++ dpl L pd) → va_S A s.heap H locs → W p l e rX0_gatherAgreeing s m args below meth c H locs 0 0 Q (F0 m 7 ls []) := by
    intro n
    induction n with
    | zero => intro k agv anv hk hm; exact absurd hm (Nat.not_lt_zero _)
    | succ n ih =>
      intro k agv anv hk hm hex ls H locs hl hP hD hS
      rw [sX0_gatherAgreeing_L7] at hex
      refine lv_iload_n hx hb dX0_gatherAgreeing_7 rfl (lv_at hl 0 rfl) ?_
      refine lv_sipush (v := 150) hx hb dX0_gatherAgreeing_8 (by decide) ?_
      refine lv_icmp_ge (tgt := 50) hx hb dX0_gatherAgreeing_11 (by decide) (fun c_1 => ?_) (fun c_1 => ?_)
      · rw [if_pos c_1] at hex
        try have n_1 : 150 ≤ k := (nI_leI (a := 150) (b := k) (by omega) (by omega)).mp c_1
        subst hex
        exact hret _ _ _ _ dX0_gatherAgreeing_50 hP hD hS
      · rw [if_neg c_1] at hex
        try have n_1 : ¬ 150 ≤ k := fun h9 => c_1 ((nI_leI (a := 150) (b := k) (by omega) (by omega)).mpr h9)
        refine lv_aload_n hx hb dX0_gatherAgreeing_14 rfl (lv_at hl 1 rfl) ?_
        refine lv_iload_n hx hb dX0_gatherAgreeing_15 rfl (lv_at hl 0 rfl) ?_
        refine cd_rV (As := [.int (nI k)]) (b := (ad 1)) (ci := 0) (q := (RX0, TX0, 8)) (rest := []) ⟨hx, hb, hml, hown, hts⟩ (kX0_fitsSigns l dC dI cI cQ cZ ad agv lo ch al anv sh wa pl rm lk br row dn dy lv od sn L pd (nI k) hdn hrw hsn hdy) (cwV 1 hts gX0_gatherAgreeing_X0_fitsSigns rfl rfl rfl (by decide +kernel) ⟨by decide, by decide⟩) hK hP rfl rfl rfl hl.1 rfl (Nat.le_of_ble_eq_true rfl) dX0_gatherAgreeing_16 ⟨by decide, by decide⟩ ?_
        refine lv_if_eq (tgt := 44) hx hb dX0_gatherAgreeing_19 (by decide) (fun c_2 => ?_) (fun c_2 => ?_)
        · rw [if_pos c_2] at hex
          refine lv_iinc (v := nI (k + 1)) (lv' := [(1, .int (nI (k + 1))), (0, .ref (ad 1))]) hx hb dX0_gatherAgreeing_44 hl (k := 0) rfl (nI_1 k) (by decide) rfl (fun ls hl => ?_)
          refine lv_goto (tgt := 7) hx hb dX0_gatherAgreeing_47 (by decide) ?_
          exact ih (k + 1) agv anv (by omega) (by omega) hex _ _ _ (lv_sub hl [0, 1] rfl) hP hD hS
        · rw [if_neg c_2] at hex
          refine lv_aload_n hx hb dX0_gatherAgreeing_22 rfl (lv_at hl 1 rfl) ?_
          refine va_get (D := (dC, dI)) (ci := 0) (v := .ref (ad 2)) (C := RX0) (T := TX0) (N := 8) hx hb hts hiX0 hown hK.1 hP 0 rfl rfl 3 (by decide) (hts (.fieldLink RX0 11 "CellDays$Cases" "agreeing" "[I") (by decide +kernel)) (fun _ h9 => h9) rfl dX0_gatherAgreeing_23 ?_
          refine lv_aload_n hx hb dX0_gatherAgreeing_26 rfl (lv_at hl 1 rfl) ?_
          refine va_get (D := (dC, dI)) (ci := 0) (v := .int (nI anv)) (C := RX0) (T := TX0) (N := 8) hx hb hts hiX0 hown hK.1 hP 0 rfl rfl 7 (by decide) (hts (.fieldLink RX0 26 "CellDays$Cases" "agreed" "I") (by decide +kernel)) (fun _ h9 => h9) rfl dX0_gatherAgreeing_27 ?_
          refine lv_iload_n hx hb dX0_gatherAgreeing_30 rfl (lv_at hl 0 rfl) ?_
          have hDc : va_D A (wAr cI (ad 2) 150 agv) := (hD.sub (ws' := (wAr cI (ad 2) 150 agv)) [1] (by decide) rfl)
          have hFc := cd_F hDc hS hA
          refine cd_wSv (As := [.ref (ad 2), .int (nI anv), .int (nI k)]) (rest := []) ⟨hx, hb, hml, hown, hts⟩ (kX5_put l dC dI cI cQ cZ (ad 2) 150 agv (nI anv) (nI k) H.size (by decide)) ⟨va_cnB 3 hts gX0_gatherAgreeing_X5_put_n100 rfl rfl rfl (hK.2.1 (.methodLinkNest RX0 100 yX5_put RX5) (by decide +kernel)) (hts (.initialized RX5) (by decide +kernel)) (by decide +kernel) ⟨by decide, by decide⟩, hts (.static yX5_put) (by decide +kernel), trivial⟩ hK (hP.sub (ws' := (wAr cI (ad 2) 150 agv)) [1] rfl) hDc hFc hS rfl hl.1 rfl (Nat.le_of_ble_eq_true rfl) dX0_gatherAgreeing_31 ⟨by decide, by decide⟩ (fun H1 locs hP1 hD1 hk1 hS => ?_)
          obtain ⟨hP, hD⟩ := va_joinQ (X := wKx cI cQ ad agv lo ch al anv sh wa pl rm lk br row dn dy lv od sn) (cx := (wAr cI (ad 2) 150 agv)) (wr := [(ad 1, .inr (0, [.ref (ad 6), .ref (ad 9), .ref (ad 11), .ref (ad 2), .ref (ad 3), .ref (ad 4), .ref (ad 5), .int (nI anv)])), (ad 3, .inl (cI, 150, .inl lo)), (ad 4, .inl (cI, 150, .inl ch)), (ad 5, .inl (cI, 10, .inl al)), (ad 6, .inr (1, [.ref (ad 7), .ref (ad 8), .int pl, .int rm, .int lk, .int br])), (ad 7, .inl (cI, 3, .inl sh)), (ad 8, .inl (cI, 12, .inl wa)), (ad 9, .inr (2, [.ref (ad 10), .int (nI dn)])), (ad 10, .inl (cQ, 8, .inr (.inr (.inr (.inr row))))), (ad 11, .inr (4, [.ref (ad 12), .ref (ad 13), .ref (ad 14), .int (nI sn)])), (ad 12, .inl (cI, 12, .inl dy)), (ad 13, .inl (cI, 12, .inl lv)), (ad 14, .inl (cI, 12, .inl od))]) (w1 := (wAr cI (ad 2) 150 (sX5_put 150 agv (nI anv) (nI k)))) hP hD [1] [0, 2, 3, 4, 5, 6, 7, 8, 9, 10, 11, 12, 13] rfl rfl (by decide) (by decide) hk1 hFc hP1 hD1
          have hP := hP.part (cx := wKx cI cQ ad (sX5_put 150 agv (nI anv) (nI k)) lo ch al anv sh wa pl rm lk br row dn dy lv od sn) [0, 13, 1, 2, 3, 4, 5, 6, 7, 8, 9, 10, 11, 12] rfl
          have hD := hD.part (cx := wKx cI cQ ad (sX5_put 150 agv (nI anv) (nI k)) lo ch al anv sh wa pl rm lk br row dn dy lv od sn) [0, 13, 1, 2, 3, 4, 5, 6, 7, 8, 9, 10, 11, 12] (by decide) rfl
          generalize H1 = H at hP hS ⊢
          have hP : va_P (dC, dI) vwCl (wKx cI cQ ad (sX5_put 150 agv (nI anv) (nI k)) lo ch al anv sh wa pl rm lk br row dn dy lv od sn ++ dpl L pd) H := hP
          have hD : va_D A (wKx cI cQ ad (sX5_put 150 agv (nI anv) (nI k)) lo ch al anv sh wa pl rm lk br row dn dy lv od sn ++ dpl L pd) := hD
          refine lv_aload_n hx hb dX0_gatherAgreeing_34 rfl (lv_at hl 1 rfl) ?_
          refine lv_dup hx hb dX0_gatherAgreeing_35 rfl ?_
          refine va_get (D := (dC, dI)) (ci := 0) (v := .int (nI anv)) (C := RX0) (T := TX0) (N := 8) hx hb hts hiX0 hown hK.1 hP 0 rfl rfl 7 (by decide) (hts (.fieldLink RX0 26 "CellDays$Cases" "agreed" "I") (by decide +kernel)) (fun _ h9 => h9) rfl dX0_gatherAgreeing_36 ?_
          refine lv_iconst (v := 1) hx hb dX0_gatherAgreeing_39 (by decide) ?_
          refine lv_iadd hx hb dX0_gatherAgreeing_40 ?_
          refine W.eq (g2 := F0 m 41 ls [.int (nI (anv + 1)), .ref (ad 1)]) (by rw [nI_1]) ?_
          refine va_put (D := (dC, dI)) (ci := 0) (v := .int (nI (anv + 1))) (ty := .int) (C := RX0) (T := TX0) (N := 8) hx hb hts hiX0 tyX0 tyX0_ok nmX0 hown hK.1 hP hD hS 0 rfl rfl 7 (by decide) (hts (.fieldLink RX0 26 "CellDays$Cases" "agreed" "I") (by decide +kernel)) (fun _ h9 => h9) rfl (by decide +kernel) (rfl) (rfl) (Nat.le_of_ble_eq_true rfl) dX0_gatherAgreeing_41 (fun H locs hP hD hS => ?_)
          have hP : va_P (dC, dI) vwCl (wKx cI cQ ad (sX5_put 150 agv (nI anv) (nI k)) lo ch al (anv + 1) sh wa pl rm lk br row dn dy lv od sn ++ dpl L pd) H := hP
          have hD : va_D A (wKx cI cQ ad (sX5_put 150 agv (nI anv) (nI k)) lo ch al (anv + 1) sh wa pl rm lk br row dn dy lv od sn ++ dpl L pd) := hD
          refine lv_iinc (v := nI (k + 1)) (lv' := [(1, .int (nI (k + 1))), (0, .ref (ad 1))]) hx hb dX0_gatherAgreeing_44 hl (k := 0) rfl (nI_1 k) (by decide) rfl (fun ls hl => ?_)
          refine lv_goto (tgt := 7) hx hb dX0_gatherAgreeing_47 (by decide) ?_
          exact ih (k + 1) (sX5_put 150 agv (nI anv) (nI k)) (anv + 1) (by omega) (by omega) hex _ _ _ (lv_sub hl [0, 1] rfl) hP hD hS
  exact L7 151 0 ag 0 (by decide) (by decide) hex _ _ _ (lv_sub hl [0, 1] rfl) hP hD hS

def rX0_leastAgreeing : Room := { frames := 1, cells := 0, slots := 0, locals := 21 }
def sX0_leastAgreeing (ag : Nat → Int32) (an : Nat) : Int32 := (if (nI an) ≤ 0 then (-9) else (sX5_at 150 ag 0))
set_option maxHeartbeats 4000000 in
set_option maxRecDepth 100000 in
theorem kX0_leastAgreeing (l : Launch) (dC : Nat → ClassId) (dI : Nat → Nat → Nat) (cI cQ cZ : ClassId) (ad : Nat → Nat) (ag : Nat → Int32) (lo : Nat → Int32) (ch : Nat → Int32) (al : Nat → Int32) (an : Nat) (sh : Nat → Int32) (wa : Nat → Int32) (pl : Int32) (rm : Int32) (lk : Int32) (br : Int32) (row : Nat → Option Nat) (dn : Nat) (dy : Nat → Int32) (lv : Nat → Int32) (od : Nat → Int32) (sn : Nat) (L : List Nat) (pd : Nat → DT) : Met l yX0_leastAgreeing wsX0_leastAgreeing rX0_leastAgreeing (va_Pc [.ref (ad 1)] (cd_rp dC dI cI cQ cZ (wKx cI cQ ad ag lo ch al an sh wa pl rm lk br row dn dy lv od sn ++ dpl L pd))) (vp_Si (fun r => r = sX0_leastAgreeing ag an)) 0 0 (fun _ => False) := by
  have hiX0 : ∀ w ∈ u_ws RX0 TX0 8, w ∈ wsX0_leastAgreeing := by decide +kernel
  generalize hex : sX0_leastAgreeing ag an = ex
  unfold sX0_leastAgreeing at hex
  refine cd_mRi [.ref (ad 1)] (by decide) rfl (Nat.le_of_ble_eq_true rfl) ?_
  intro Q p e s m args below meth c ls hx hb hml hown hts hret ⟨hK, hP⟩ hl
  have hl : lv_has ls 1 [(0, .ref (ad 1))] := hl
  refine lv_aload_n hx hb dX0_leastAgreeing_0 rfl (lv_at hl 0 rfl) ?_
  refine va_get (D := (dC, dI)) (ci := 0) (v := .int (nI an)) (C := RX0) (T := TX0) (N := 8) hx hb hts hiX0 hown hK.1 hP 0 rfl rfl 7 (by decide) (hts (.fieldLink RX0 26 "CellDays$Cases" "agreed" "I") (by decide +kernel)) (fun _ h9 => h9) rfl dX0_leastAgreeing_1 ?_
  refine lv_if_le (tgt := 18) hx hb dX0_leastAgreeing_4 (by decide) (fun c_1 => ?_) (fun c_1 => ?_)
  · rw [if_pos c_1] at hex
    try have n_1 : an ≤ 0 := (nI_leI (a := an) (b := 0) (by omega) (by omega)).mp c_1
    refine lv_bipush (v := (-9)) hx hb dX0_leastAgreeing_18 (by decide) ?_
    subst hex
    exact hret _ _ dX0_leastAgreeing_20
  · rw [if_neg c_1] at hex
    try have n_1 : ¬ an ≤ 0 := fun h9 => c_1 ((nI_leI (a := an) (b := 0) (by omega) (by omega)).mpr h9)
    refine lv_aload_n hx hb dX0_leastAgreeing_7 rfl (lv_at hl 0 rfl) ?_
    refine va_get (D := (dC, dI)) (ci := 0) (v := .ref (ad 2)) (C := RX0) (T := TX0) (N := 8) hx hb hts hiX0 hown hK.1 hP 0 rfl rfl 3 (by decide) (hts (.fieldLink RX0 11 "CellDays$Cases" "agreeing" "[I") (by decide +kernel)) (fun _ h9 => h9) rfl dX0_leastAgreeing_8 ?_
    refine lv_iconst (v := 0) hx hb dX0_leastAgreeing_11 (by decide) ?_
    refine cd_rSN (As := [.ref (ad 2), .int 0]) (rest := []) ⟨hx, hb, hml, hown, hts⟩ (kX5_at l dC dI cI cQ cZ (ad 2) 150 ag 0 (by decide)) ⟨va_cnB 2 hts gX0_leastAgreeing_X5_at_n104 rfl rfl rfl (hK.2.1 (.methodLinkNest RX0 104 yX5_at RX5) (by decide +kernel)) (hts (.initialized RX5) (by decide +kernel)) (by decide +kernel) ⟨by decide, by decide⟩, hts (.static yX5_at) (by decide +kernel), trivial⟩ hK (hP.sub (ws' := (wAr cI (ad 2) 150 ag)) [1] rfl) rfl hl.1 rfl (Nat.le_of_ble_eq_true rfl) dX0_leastAgreeing_12 ⟨by decide, by decide⟩ ?_
    refine lv_goto (tgt := 20) hx hb dX0_leastAgreeing_15 (by decide) ?_
    subst hex
    exact hret _ _ dX0_leastAgreeing_20

def rX0_isOdd : Room := { frames := 1, cells := 0, slots := 0, locals := 21 }
def sX0_isOdd_L2 (ag : Nat → Int32) (an : Nat) : Nat → Nat → Int32
  | 0, k => 0
  | n + 1, k => (if (nI an) ≤ (nI k) then (if (nI an) ≤ 0 then 0 else 1) else (if (sX0_oddOf (sX5_at 150 ag (nI k))) = 0 then 0 else sX0_isOdd_L2 ag an n (k + 1)))
def sX0_isOdd (ag : Nat → Int32) (an : Nat) : Int32 := sX0_isOdd_L2 ag an 151 0
set_option maxHeartbeats 4000000 in
set_option maxRecDepth 100000 in
theorem kX0_isOdd (l : Launch) (dC : Nat → ClassId) (dI : Nat → Nat → Nat) (cI cQ cZ : ClassId) (ad : Nat → Nat) (ag : Nat → Int32) (lo : Nat → Int32) (ch : Nat → Int32) (al : Nat → Int32) (an : Nat) (sh : Nat → Int32) (wa : Nat → Int32) (pl : Int32) (rm : Int32) (lk : Int32) (br : Int32) (row : Nat → Option Nat) (dn : Nat) (dy : Nat → Int32) (lv : Nat → Int32) (od : Nat → Int32) (sn : Nat) (L : List Nat) (pd : Nat → DT) (han : an ≤ 150) : Met l yX0_isOdd wsX0_isOdd rX0_isOdd (va_Pc [.ref (ad 1)] (cd_rp dC dI cI cQ cZ (wKx cI cQ ad ag lo ch al an sh wa pl rm lk br row dn dy lv od sn ++ dpl L pd))) (vp_Si (fun r => r = sX0_isOdd ag an)) 0 0 (fun _ => False) := by
  have hiX0 : ∀ w ∈ u_ws RX0 TX0 8, w ∈ wsX0_isOdd := by decide +kernel
  generalize hex : sX0_isOdd ag an = ex
  unfold sX0_isOdd at hex
  refine cd_mRz [.ref (ad 1)] (by decide) rfl (Nat.le_of_ble_eq_true rfl) ?_
  intro Q p e s m args below meth c ls hx hb hml hown hts hret ⟨hK, hP⟩ hl
  have hl : lv_has ls 2 [(0, .ref (ad 1))] := hl
  refine lv_iconst (v := 0) hx hb dX0_isOdd_0 (by decide) ?_
  refine lv_istore_n (lv' := [(1, .int 0), (0, .ref (ad 1))]) hx hb dX0_isOdd_1 rfl hl (by decide) rfl (fun ls hl => ?_)
  have L2 : ∀ (n : Nat) (k : Nat), (k ≤ 150) → 150 - k < n → sX0_isOdd_L2 ag an n k = ex → ∀ (ls : Array Slot), lv_has ls 2 [(1, .int (nI k)), (0, .ref (ad 1))] → W p l e rX0_isOdd s m args below meth c s.heap [] 0 0 Q (F0 m 2 ls []) := by
    intro n
    induction n with
    | zero => intro k hk hm; exact absurd hm (Nat.not_lt_zero _)
    | succ n ih =>
      intro k hk hm hex ls hl
      rw [sX0_isOdd_L2] at hex
      refine lv_iload_n hx hb dX0_isOdd_2 rfl (lv_at hl 0 rfl) ?_
      refine lv_aload_n hx hb dX0_isOdd_3 rfl (lv_at hl 1 rfl) ?_
      refine va_get (D := (dC, dI)) (ci := 0) (v := .int (nI an)) (C := RX0) (T := TX0) (N := 8) hx hb hts hiX0 hown hK.1 hP 0 rfl rfl 7 (by decide) (hts (.fieldLink RX0 26 "CellDays$Cases" "agreed" "I") (by decide +kernel)) (fun _ h9 => h9) rfl dX0_isOdd_4 ?_
      refine lv_icmp_ge (tgt := 32) hx hb dX0_isOdd_7 (by decide) (fun c_1 => ?_) (fun c_1 => ?_)
      · rw [if_pos c_1] at hex
        try have n_1 : an ≤ k := (nI_leI (a := an) (b := k) (by omega) (by omega)).mp c_1
        refine lv_aload_n hx hb dX0_isOdd_32 rfl (lv_at hl 1 rfl) ?_
        refine va_get (D := (dC, dI)) (ci := 0) (v := .int (nI an)) (C := RX0) (T := TX0) (N := 8) hx hb hts hiX0 hown hK.1 hP 0 rfl rfl 7 (by decide) (hts (.fieldLink RX0 26 "CellDays$Cases" "agreed" "I") (by decide +kernel)) (fun _ h9 => h9) rfl dX0_isOdd_33 ?_
        refine lv_if_le (tgt := 43) hx hb dX0_isOdd_36 (by decide) (fun c_2 => ?_) (fun c_2 => ?_)
        · rw [if_pos c_2] at hex
          try have n_2 : an ≤ 0 := (nI_leI (a := an) (b := 0) (by omega) (by omega)).mp c_2
          refine lv_iconst (v := 0) hx hb dX0_isOdd_43 (by decide) ?_
          subst hex
          exact hret _ _ rfl dX0_isOdd_44
        · rw [if_neg c_2] at hex
          try have n_2 : ¬ an ≤ 0 := fun h9 => c_2 ((nI_leI (a := an) (b := 0) (by omega) (by omega)).mpr h9)
          refine lv_iconst (v := 1) hx hb dX0_isOdd_39 (by decide) ?_
          refine lv_goto (tgt := 44) hx hb dX0_isOdd_40 (by decide) ?_
          subst hex
          exact hret _ _ rfl dX0_isOdd_44
      · rw [if_neg c_1] at hex
        try have n_1 : ¬ an ≤ k := fun h9 => c_1 ((nI_leI (a := an) (b := k) (by omega) (by omega)).mpr h9)
        refine lv_aload_n hx hb dX0_isOdd_10 rfl (lv_at hl 1 rfl) ?_
        refine va_get (D := (dC, dI)) (ci := 0) (v := .ref (ad 2)) (C := RX0) (T := TX0) (N := 8) hx hb hts hiX0 hown hK.1 hP 0 rfl rfl 3 (by decide) (hts (.fieldLink RX0 11 "CellDays$Cases" "agreeing" "[I") (by decide +kernel)) (fun _ h9 => h9) rfl dX0_isOdd_11 ?_
        refine lv_iload_n hx hb dX0_isOdd_14 rfl (lv_at hl 0 rfl) ?_
        refine cd_rSN (As := [.ref (ad 2), .int (nI k)]) (rest := []) ⟨hx, hb, hml, hown, hts⟩ (kX5_at l dC dI cI cQ cZ (ad 2) 150 ag (nI k) (by decide)) ⟨va_cnB 2 hts gX0_isOdd_X5_at_n104 rfl rfl rfl (hK.2.1 (.methodLinkNest RX0 104 yX5_at RX5) (by decide +kernel)) (hts (.initialized RX5) (by decide +kernel)) (by decide +kernel) ⟨by decide, by decide⟩, hts (.static yX5_at) (by decide +kernel), trivial⟩ hK (hP.sub (ws' := (wAr cI (ad 2) 150 ag)) [1] rfl) rfl hl.1 rfl (Nat.le_of_ble_eq_true rfl) dX0_isOdd_15 ⟨by decide, by decide⟩ ?_
        refine cd_rS (As := [.int (sX5_at 150 ag (nI k))]) (rest := []) ⟨hx, hb, hml, hown, hts⟩ (kX0_oddOf l dC dI cI cQ cZ (sX5_at 150 ag (nI k))) (va_cwS 1 hts gX0_isOdd_X0_oddOf rfl rfl rfl (by decide +kernel) ⟨by decide, by decide⟩) hK cd_P0 rfl hl.1 rfl (Nat.le_of_ble_eq_true rfl) dX0_isOdd_18 ⟨by decide, by decide⟩ ?_
        refine lv_if_ne (tgt := 26) hx hb dX0_isOdd_21 (by decide) (fun c_3 => ?_) (fun c_3 => ?_)
        · rw [if_neg c_3] at hex
          refine lv_iinc (v := nI (k + 1)) (lv' := [(1, .int (nI (k + 1))), (0, .ref (ad 1))]) hx hb dX0_isOdd_26 hl (k := 0) rfl (nI_1 k) (by decide) rfl (fun ls hl => ?_)
          refine lv_goto (tgt := 2) hx hb dX0_isOdd_29 (by decide) ?_
          exact ih (k + 1) (by omega) (by omega) hex _ (lv_sub hl [0, 1] rfl)
        · rw [if_pos c_3] at hex
          refine lv_iconst (v := 0) hx hb dX0_isOdd_24 (by decide) ?_
          subst hex
          exact hret _ _ rfl dX0_isOdd_25
  exact L2 151 0 (by decide) (by decide) hex _ (lv_sub hl [0, 1] rfl)

def rX0_startAgreeing : Room := { frames := 4, cells := 0, slots := 0, locals := 92 }
def sX0_startAgreeing_L2 (ag : Nat → Int32) (an : Nat) (rm : Int32) (br : Int32) (row : Nat → Option Nat) (dn : Nat) (pd : Nat → DT) : Nat → Nat → (Nat → Int32) → (Nat → Int32) → (Nat → Int32) × (Nat → Int32)
  | 0, k, lov, chv => ((fun _ => 0), (fun _ => 0))
  | n + 1, k, lov, chv => (if (nI an) ≤ (nI k) then (lov, chv) else sX0_startAgreeing_L2 ag an rm br row dn pd n (k + 1) (sX5_put 150 lov (nI k) (sX0_loadOfCase br row dn pd (sX5_at 150 ag (nI k)))) (sX5_put 150 chv (nI k) (sX1_chargeAtFirst rm)))
def sX0_startAgreeing (ag : Nat → Int32) (lo : Nat → Int32) (ch : Nat → Int32) (an : Nat) (rm : Int32) (br : Int32) (row : Nat → Option Nat) (dn : Nat) (pd : Nat → DT) : (Nat → Int32) × (Nat → Int32) := sX0_startAgreeing_L2 ag an rm br row dn pd 151 0 lo ch
set_option maxHeartbeats 4000000 in
set_option maxRecDepth 100000 in
theorem kX0_startAgreeing (l : Launch) (dC : Nat → ClassId) (dI : Nat → Nat → Nat) (cI cQ cZ : ClassId) (ad : Nat → Nat) (ag : Nat → Int32) (lo : Nat → Int32) (ch : Nat → Int32) (al : Nat → Int32) (an : Nat) (sh : Nat → Int32) (wa : Nat → Int32) (pl : Int32) (rm : Int32) (lk : Int32) (br : Int32) (row : Nat → Option Nat) (dn : Nat) (dy : Nat → Int32) (lv : Nat → Int32) (od : Nat → Int32) (sn : Nat) (L : List Nat) (pd : Nat → DT) (sz : Nat) (hdn : dn ≤ 8) (hrw : ∀ j y, row j = some y → y ∈ L) (han : an ≤ 150) : Met l yX0_startAgreeing wsX0_startAgreeing rX0_startAgreeing (va_Pc [.ref (ad 1)] (cd_pre dC dI cI cQ cZ (wKx cI cQ ad ag lo ch al an sh wa pl rm lk br row dn dy lv od sn ++ dpl L pd) sz)) (va_Qv (fun _ => True) (cd_post dC dI (wKx cI cQ ad ag lo ch al an sh wa pl rm lk br row dn dy lv od sn ++ dpl L pd) (wKx cI cQ ad ag ((sX0_startAgreeing ag lo ch an rm br row dn pd).1) ((sX0_startAgreeing ag lo ch an rm br row dn pd).2) al an sh wa pl rm lk br row dn dy lv od sn ++ dpl L pd) sz) (va_A (wKx cI cQ ad ag lo ch al an sh wa pl rm lk br row dn dy lv od sn ++ dpl L pd) sz)) 0 0 (va_A (wKx cI cQ ad ag lo ch al an sh wa pl rm lk br row dn dy lv od sn ++ dpl L pd) sz) := by
  have hiX0 : ∀ w ∈ u_ws RX0 TX0 8, w ∈ wsX0_startAgreeing := by decide +kernel
  generalize hex : sX0_startAgreeing ag lo ch an rm br row dn pd = ex
  unfold sX0_startAgreeing at hex
  refine cd_mMv [.ref (ad 1)] (by decide) rfl (Nat.le_of_ble_eq_true rfl) ?_
  intro Q A p e s m args below meth c ls hx hb hml hown hts hA hinit hret hK hP hD hS hl
  have hl : lv_has ls 2 [(0, .ref (ad 1))] := hl
  refine lv_iconst (v := 0) hx hb dX0_startAgreeing_0 (by decide) ?_
  refine lv_istore_n (lv' := [(1, .int 0), (0, .ref (ad 1))]) hx hb dX0_startAgreeing_1 rfl hl (by decide) rfl (fun ls hl => ?_)
  have L2 : ∀ (n : Nat) (k : Nat) (lov : Nat → Int32) (chv : Nat → Int32), (k ≤ 150) → 150 - k < n → sX0_startAgreeing_L2 ag an rm br row dn pd n k lov chv = ex → ∀ (ls : Array Slot) (H : Heap) (locs : List Loc), lv_has ls 2 [(1, .int (nI k)), (0, .ref (ad 1))] → va_P (dC, dI) vwCl (wKx cI cQ ad ag lov chv al an sh wa pl rm lk br row dn dy lv od sn ++ dpl L pd) H → va_D A (wKx cI cQ ad ag lov chv al an sh wa pl rm lk br row dn dy lv od sn ++ dpl L pd) → va_S A s.heap H locs → W p l e rX0_startAgreeing s m args below meth c H locs 0 0 Q (F0 m 2 ls []) := by
    intro n
    induction n with
    | zero => intro k lov chv hk hm; exact absurd hm (Nat.not_lt_zero _)
    | succ n ih =>
      intro k lov chv hk hm hex ls H locs hl hP hD hS
      rw [sX0_startAgreeing_L2] at hex
      refine lv_iload_n hx hb dX0_startAgreeing_2 rfl (lv_at hl 0 rfl) ?_
      refine lv_aload_n hx hb dX0_startAgreeing_3 rfl (lv_at hl 1 rfl) ?_
      refine va_get (D := (dC, dI)) (ci := 0) (v := .int (nI an)) (C := RX0) (T := TX0) (N := 8) hx hb hts hiX0 hown hK.1 hP 0 rfl rfl 7 (by decide) (hts (.fieldLink RX0 26 "CellDays$Cases" "agreed" "I") (by decide +kernel)) (fun _ h9 => h9) rfl dX0_startAgreeing_4 ?_
      refine lv_icmp_ge (tgt := 51) hx hb dX0_startAgreeing_7 (by decide) (fun c_1 => ?_) (fun c_1 => ?_)
      · rw [if_pos c_1] at hex
        try have n_1 : an ≤ k := (nI_leI (a := an) (b := k) (by omega) (by omega)).mp c_1
        subst hex
        exact hret _ _ _ _ dX0_startAgreeing_51 hP hD hS
      · rw [if_neg c_1] at hex
        try have n_1 : ¬ an ≤ k := fun h9 => c_1 ((nI_leI (a := an) (b := k) (by omega) (by omega)).mpr h9)
        refine lv_aload_n hx hb dX0_startAgreeing_10 rfl (lv_at hl 1 rfl) ?_
        refine va_get (D := (dC, dI)) (ci := 0) (v := .ref (ad 3)) (C := RX0) (T := TX0) (N := 8) hx hb hts hiX0 hown hK.1 hP 0 rfl rfl 4 (by decide) (hts (.fieldLink RX0 15 "CellDays$Cases" "loads" "[I") (by decide +kernel)) (fun _ h9 => h9) rfl dX0_startAgreeing_11 ?_
        refine lv_iload_n hx hb dX0_startAgreeing_14 rfl (lv_at hl 0 rfl) ?_
        refine lv_aload_n hx hb dX0_startAgreeing_15 rfl (lv_at hl 1 rfl) ?_
        refine lv_aload_n hx hb dX0_startAgreeing_16 rfl (lv_at hl 1 rfl) ?_
        refine va_get (D := (dC, dI)) (ci := 0) (v := .ref (ad 2)) (C := RX0) (T := TX0) (N := 8) hx hb hts hiX0 hown hK.1 hP 0 rfl rfl 3 (by decide) (hts (.fieldLink RX0 11 "CellDays$Cases" "agreeing" "[I") (by decide +kernel)) (fun _ h9 => h9) rfl dX0_startAgreeing_17 ?_
        refine lv_iload_n hx hb dX0_startAgreeing_20 rfl (lv_at hl 0 rfl) ?_
        refine cd_rSN (As := [.ref (ad 2), .int (nI k)]) (rest := [.ref (ad 1), .int (nI k), .ref (ad 3)]) ⟨hx, hb, hml, hown, hts⟩ (kX5_at l dC dI cI cQ cZ (ad 2) 150 ag (nI k) (by decide)) ⟨va_cnB 2 hts gX0_startAgreeing_X5_at_n104 rfl rfl rfl (hK.2.1 (.methodLinkNest RX0 104 yX5_at RX5) (by decide +kernel)) (hts (.initialized RX5) (by decide +kernel)) (by decide +kernel) ⟨by decide, by decide⟩, hts (.static yX5_at) (by decide +kernel), trivial⟩ hK (hP.sub (ws' := (wAr cI (ad 2) 150 ag)) [1] rfl) rfl hl.1 rfl (Nat.le_of_ble_eq_true rfl) dX0_startAgreeing_21 ⟨by decide, by decide⟩ ?_
        refine cd_rV (As := [.int (sX5_at 150 ag (nI k))]) (b := (ad 1)) (ci := 0) (q := (RX0, TX0, 8)) (rest := [.int (nI k), .ref (ad 3)]) ⟨hx, hb, hml, hown, hts⟩ (kX0_loadOfCase l dC dI cI cQ cZ ad ag lov chv al an sh wa pl rm lk br row dn dy lv od sn L pd (sX5_at 150 ag (nI k)) hdn hrw) (cwV 1 hts gX0_startAgreeing_X0_loadOfCase rfl rfl rfl (by decide +kernel) ⟨by decide, by decide⟩) hK hP rfl rfl rfl hl.1 rfl (Nat.le_of_ble_eq_true rfl) dX0_startAgreeing_24 ⟨by decide, by decide⟩ ?_
        have hDc : va_D A (wAr cI (ad 3) 150 lov) := (hD.sub (ws' := (wAr cI (ad 3) 150 lov)) [2] (by decide) rfl)
        have hFc := cd_F hDc hS hA
        refine cd_wSv (As := [.ref (ad 3), .int (nI k), .int (sX0_loadOfCase br row dn pd (sX5_at 150 ag (nI k)))]) (rest := []) ⟨hx, hb, hml, hown, hts⟩ (kX5_put l dC dI cI cQ cZ (ad 3) 150 lov (nI k) (sX0_loadOfCase br row dn pd (sX5_at 150 ag (nI k))) H.size (by decide)) ⟨va_cnB 3 hts gX0_startAgreeing_X5_put_n100 rfl rfl rfl (hK.2.1 (.methodLinkNest RX0 100 yX5_put RX5) (by decide +kernel)) (hts (.initialized RX5) (by decide +kernel)) (by decide +kernel) ⟨by decide, by decide⟩, hts (.static yX5_put) (by decide +kernel), trivial⟩ hK (hP.sub (ws' := (wAr cI (ad 3) 150 lov)) [2] rfl) hDc hFc hS rfl hl.1 rfl (Nat.le_of_ble_eq_true rfl) dX0_startAgreeing_27 ⟨by decide, by decide⟩ (fun H1 locs hP1 hD1 hk1 hS => ?_)
        obtain ⟨hP, hD⟩ := va_joinQ (X := wKx cI cQ ad ag lov chv al an sh wa pl rm lk br row dn dy lv od sn) (cx := (wAr cI (ad 3) 150 lov)) (wr := [(ad 1, .inr (0, [.ref (ad 6), .ref (ad 9), .ref (ad 11), .ref (ad 2), .ref (ad 3), .ref (ad 4), .ref (ad 5), .int (nI an)])), (ad 2, .inl (cI, 150, .inl ag)), (ad 4, .inl (cI, 150, .inl chv)), (ad 5, .inl (cI, 10, .inl al)), (ad 6, .inr (1, [.ref (ad 7), .ref (ad 8), .int pl, .int rm, .int lk, .int br])), (ad 7, .inl (cI, 3, .inl sh)), (ad 8, .inl (cI, 12, .inl wa)), (ad 9, .inr (2, [.ref (ad 10), .int (nI dn)])), (ad 10, .inl (cQ, 8, .inr (.inr (.inr (.inr row))))), (ad 11, .inr (4, [.ref (ad 12), .ref (ad 13), .ref (ad 14), .int (nI sn)])), (ad 12, .inl (cI, 12, .inl dy)), (ad 13, .inl (cI, 12, .inl lv)), (ad 14, .inl (cI, 12, .inl od))]) (w1 := (wAr cI (ad 3) 150 (sX5_put 150 lov (nI k) (sX0_loadOfCase br row dn pd (sX5_at 150 ag (nI k)))))) hP hD [2] [0, 1, 3, 4, 5, 6, 7, 8, 9, 10, 11, 12, 13] rfl rfl (by decide) (by decide) hk1 hFc hP1 hD1
        have hP := hP.part (cx := wKx cI cQ ad ag (sX5_put 150 lov (nI k) (sX0_loadOfCase br row dn pd (sX5_at 150 ag (nI k)))) chv al an sh wa pl rm lk br row dn dy lv od sn) [0, 1, 13, 2, 3, 4, 5, 6, 7, 8, 9, 10, 11, 12] rfl
        have hD := hD.part (cx := wKx cI cQ ad ag (sX5_put 150 lov (nI k) (sX0_loadOfCase br row dn pd (sX5_at 150 ag (nI k)))) chv al an sh wa pl rm lk br row dn dy lv od sn) [0, 1, 13, 2, 3, 4, 5, 6, 7, 8, 9, 10, 11, 12] (by decide) rfl
        generalize H1 = H at hP hS ⊢
        have hP : va_P (dC, dI) vwCl (wKx cI cQ ad ag (sX5_put 150 lov (nI k) (sX0_loadOfCase br row dn pd (sX5_at 150 ag (nI k)))) chv al an sh wa pl rm lk br row dn dy lv od sn ++ dpl L pd) H := hP
        have hD : va_D A (wKx cI cQ ad ag (sX5_put 150 lov (nI k) (sX0_loadOfCase br row dn pd (sX5_at 150 ag (nI k)))) chv al an sh wa pl rm lk br row dn dy lv od sn ++ dpl L pd) := hD
        refine lv_aload_n hx hb dX0_startAgreeing_30 rfl (lv_at hl 1 rfl) ?_
        refine va_get (D := (dC, dI)) (ci := 0) (v := .ref (ad 4)) (C := RX0) (T := TX0) (N := 8) hx hb hts hiX0 hown hK.1 hP 0 rfl rfl 5 (by decide) (hts (.fieldLink RX0 18 "CellDays$Cases" "charges" "[I") (by decide +kernel)) (fun _ h9 => h9) rfl dX0_startAgreeing_31 ?_
        refine lv_iload_n hx hb dX0_startAgreeing_34 rfl (lv_at hl 0 rfl) ?_
        refine lv_aload_n hx hb dX0_startAgreeing_35 rfl (lv_at hl 1 rfl) ?_
        refine va_get (D := (dC, dI)) (ci := 0) (v := .ref (ad 6)) (C := RX0) (T := TX0) (N := 8) hx hb hts hiX0 hown hK.1 hP 0 rfl rfl 0 (by decide) (hts (.fieldLink RX0 30 "CellDays$Cases" "cell" "LCellDays$Cell;") (by decide +kernel)) (fun _ h9 => h9) rfl dX0_startAgreeing_36 ?_
        refine cd_rV (As := []) (b := (ad 6)) (ci := 1) (q := (RX1, TX1, 6)) (rest := [.int (nI k), .ref (ad 4)]) ⟨hx, hb, hml, hown, hts⟩ (kX1_chargeAtFirst l dC dI cI cQ cZ (ad 6) (ad 7) (ad 8) sh wa pl rm lk br) (cwV 0 hts gX0_startAgreeing_X1_chargeAtFirst rfl rfl rfl (by decide +kernel) ⟨by decide, by decide⟩) hK (hP.sub (ws' := (wCl cI (ad 6) (ad 7) (ad 8) sh wa pl rm lk br)) [5, 6, 7] rfl) rfl rfl rfl hl.1 rfl (Nat.le_of_ble_eq_true rfl) dX0_startAgreeing_39 ⟨by decide, by decide⟩ ?_
        have hDc : va_D A (wAr cI (ad 4) 150 chv) := (hD.sub (ws' := (wAr cI (ad 4) 150 chv)) [3] (by decide) rfl)
        have hFc := cd_F hDc hS hA
        refine cd_wSv (As := [.ref (ad 4), .int (nI k), .int (sX1_chargeAtFirst rm)]) (rest := []) ⟨hx, hb, hml, hown, hts⟩ (kX5_put l dC dI cI cQ cZ (ad 4) 150 chv (nI k) (sX1_chargeAtFirst rm) H.size (by decide)) ⟨va_cnB 3 hts gX0_startAgreeing_X5_put_n100 rfl rfl rfl (hK.2.1 (.methodLinkNest RX0 100 yX5_put RX5) (by decide +kernel)) (hts (.initialized RX5) (by decide +kernel)) (by decide +kernel) ⟨by decide, by decide⟩, hts (.static yX5_put) (by decide +kernel), trivial⟩ hK (hP.sub (ws' := (wAr cI (ad 4) 150 chv)) [3] rfl) hDc hFc hS rfl hl.1 rfl (Nat.le_of_ble_eq_true rfl) dX0_startAgreeing_42 ⟨by decide, by decide⟩ (fun H1 locs hP1 hD1 hk1 hS => ?_)
        obtain ⟨hP, hD⟩ := va_joinQ (X := wKx cI cQ ad ag (sX5_put 150 lov (nI k) (sX0_loadOfCase br row dn pd (sX5_at 150 ag (nI k)))) chv al an sh wa pl rm lk br row dn dy lv od sn) (cx := (wAr cI (ad 4) 150 chv)) (wr := [(ad 1, .inr (0, [.ref (ad 6), .ref (ad 9), .ref (ad 11), .ref (ad 2), .ref (ad 3), .ref (ad 4), .ref (ad 5), .int (nI an)])), (ad 2, .inl (cI, 150, .inl ag)), (ad 3, .inl (cI, 150, .inl (sX5_put 150 lov (nI k) (sX0_loadOfCase br row dn pd (sX5_at 150 ag (nI k)))))), (ad 5, .inl (cI, 10, .inl al)), (ad 6, .inr (1, [.ref (ad 7), .ref (ad 8), .int pl, .int rm, .int lk, .int br])), (ad 7, .inl (cI, 3, .inl sh)), (ad 8, .inl (cI, 12, .inl wa)), (ad 9, .inr (2, [.ref (ad 10), .int (nI dn)])), (ad 10, .inl (cQ, 8, .inr (.inr (.inr (.inr row))))), (ad 11, .inr (4, [.ref (ad 12), .ref (ad 13), .ref (ad 14), .int (nI sn)])), (ad 12, .inl (cI, 12, .inl dy)), (ad 13, .inl (cI, 12, .inl lv)), (ad 14, .inl (cI, 12, .inl od))]) (w1 := (wAr cI (ad 4) 150 (sX5_put 150 chv (nI k) (sX1_chargeAtFirst rm)))) hP hD [3] [0, 1, 2, 4, 5, 6, 7, 8, 9, 10, 11, 12, 13] rfl rfl (by decide) (by decide) hk1 hFc hP1 hD1
        have hP := hP.part (cx := wKx cI cQ ad ag (sX5_put 150 lov (nI k) (sX0_loadOfCase br row dn pd (sX5_at 150 ag (nI k)))) (sX5_put 150 chv (nI k) (sX1_chargeAtFirst rm)) al an sh wa pl rm lk br row dn dy lv od sn) [0, 1, 2, 13, 3, 4, 5, 6, 7, 8, 9, 10, 11, 12] rfl
        have hD := hD.part (cx := wKx cI cQ ad ag (sX5_put 150 lov (nI k) (sX0_loadOfCase br row dn pd (sX5_at 150 ag (nI k)))) (sX5_put 150 chv (nI k) (sX1_chargeAtFirst rm)) al an sh wa pl rm lk br row dn dy lv od sn) [0, 1, 2, 13, 3, 4, 5, 6, 7, 8, 9, 10, 11, 12] (by decide) rfl
        generalize H1 = H at hP hS ⊢
        have hP : va_P (dC, dI) vwCl (wKx cI cQ ad ag (sX5_put 150 lov (nI k) (sX0_loadOfCase br row dn pd (sX5_at 150 ag (nI k)))) (sX5_put 150 chv (nI k) (sX1_chargeAtFirst rm)) al an sh wa pl rm lk br row dn dy lv od sn ++ dpl L pd) H := hP
        have hD : va_D A (wKx cI cQ ad ag (sX5_put 150 lov (nI k) (sX0_loadOfCase br row dn pd (sX5_at 150 ag (nI k)))) (sX5_put 150 chv (nI k) (sX1_chargeAtFirst rm)) al an sh wa pl rm lk br row dn dy lv od sn ++ dpl L pd) := hD
        refine lv_iinc (v := nI (k + 1)) (lv' := [(1, .int (nI (k + 1))), (0, .ref (ad 1))]) hx hb dX0_startAgreeing_45 hl (k := 0) rfl (nI_1 k) (by decide) rfl (fun ls hl => ?_)
        refine lv_goto (tgt := 2) hx hb dX0_startAgreeing_48 (by decide) ?_
        exact ih (k + 1) (sX5_put 150 lov (nI k) (sX0_loadOfCase br row dn pd (sX5_at 150 ag (nI k)))) (sX5_put 150 chv (nI k) (sX1_chargeAtFirst rm)) (by omega) (by omega) hex _ _ _ (lv_sub hl [0, 1] rfl) hP hD hS
  exact L2 151 0 lo ch (by decide) (by decide) hex _ _ _ (lv_sub hl [0, 1] rfl) hP hD hS

def rX0_greatestAtOneLevel : Room := { frames := 2, cells := 0, slots := 0, locals := 43 }
def sX0_greatestAtOneLevel_L28 (ch : Nat → Int32) (rm : Int32) (an : Nat) : Nat → Int32 → Nat → (Nat → Int32) → Int32 × (Nat → Int32)
  | 0, gr, j, alw => (0, (fun _ => 0))
  | n + 1, gr, j, alw => (if (nI an) ≤ (nI j) then (gr, alw) else sX0_greatestAtOneLevel_L28 ch rm an n (if gr < ((sX5_at 10 alw (sX1_levelOf rm (sX5_at 150 ch (nI j)))) + 1) then ((sX5_at 10 alw (sX1_levelOf rm (sX5_at 150 ch (nI j)))) + 1) else gr) (j + 1) (sX5_put 10 alw (sX1_levelOf rm (sX5_at 150 ch (nI j))) ((sX5_at 10 alw (sX1_levelOf rm (sX5_at 150 ch (nI j)))) + 1)))
def sX0_greatestAtOneLevel_L2 (ch : Nat → Int32) (rm : Int32) (an : Nat) : Nat → Nat → (Nat → Int32) → Int32 × (Nat → Int32)
  | 0, k, alv => (0, (fun _ => 0))
  | n + 1, k, alv => (if 10 ≤ (nI k) then sX0_greatestAtOneLevel_L28 ch rm an 151 0 0 alv else sX0_greatestAtOneLevel_L2 ch rm an n (k + 1) (upd alv k 0))
def sX0_greatestAtOneLevel (ch : Nat → Int32) (al : Nat → Int32) (an : Nat) (rm : Int32) : Int32 × (Nat → Int32) := sX0_greatestAtOneLevel_L2 ch rm an 11 0 al
set_option maxHeartbeats 4000000 in
set_option maxRecDepth 100000 in
theorem kX0_greatestAtOneLevel (l : Launch) (dC : Nat → ClassId) (dI : Nat → Nat → Nat) (cI cQ cZ : ClassId) (ad : Nat → Nat) (ag : Nat → Int32) (lo : Nat → Int32) (ch : Nat → Int32) (al : Nat → Int32) (an : Nat) (sh : Nat → Int32) (wa : Nat → Int32) (pl : Int32) (rm : Int32) (lk : Int32) (br : Int32) (row : Nat → Option Nat) (dn : Nat) (dy : Nat → Int32) (lv : Nat → Int32) (od : Nat → Int32) (sn : Nat) (L : List Nat) (pd : Nat → DT) (sz : Nat) (han : an ≤ 150) : Met l yX0_greatestAtOneLevel wsX0_greatestAtOneLevel rX0_greatestAtOneLevel (va_Pc [.ref (ad 1)] (cd_pre dC dI cI cQ cZ (wKx cI cQ ad ag lo ch al an sh wa pl rm lk br row dn dy lv od sn ++ dpl L pd) sz)) (va_Qi (fun r _ => r = (sX0_greatestAtOneLevel ch al an rm).1) (cd_post dC dI (wKx cI cQ ad ag lo ch al an sh wa pl rm lk br row dn dy lv od sn ++ dpl L pd) (wKx cI cQ ad ag lo ch ((sX0_greatestAtOneLevel ch al an rm).2) an sh wa pl rm lk br row dn dy lv od sn ++ dpl L pd) sz) (va_A (wKx cI cQ ad ag lo ch al an sh wa pl rm lk br row dn dy lv od sn ++ dpl L pd) sz)) 0 0 (va_A (wKx cI cQ ad ag lo ch al an sh wa pl rm lk br row dn dy lv od sn ++ dpl L pd) sz) := by
  have hiX0 : ∀ w ∈ u_ws RX0 TX0 8, w ∈ wsX0_greatestAtOneLevel := by decide +kernel
  generalize hex : sX0_greatestAtOneLevel ch al an rm = ex
  unfold sX0_greatestAtOneLevel at hex
  refine cd_mMi [.ref (ad 1)] (by decide) rfl (Nat.le_of_ble_eq_true rfl) ?_
  intro Q A p e s m args below meth c ls hx hb hml hown hts hA hret hK hP hD hS hl
  have hl : lv_has ls 5 [(0, .ref (ad 1))] := hl
  refine lv_iconst (v := 0) hx hb dX0_greatestAtOneLevel_0 (by decide) ?_
  refine lv_istore_n (lv' := [(1, .int 0), (0, .ref (ad 1))]) hx hb dX0_greatestAtOneLevel_1 rfl hl (by decide) rfl (fun ls hl => ?_)
  have L2 : ∀ (n : Nat) (k : Nat) (alv : Nat → Int32), (k ≤ 10) → 10 - k < n → sX0_greatestAtOneLevel_L2 ch rm an n k alv = ex → ∀ (ls : Array Slot) (H : Heap) (locs : List Loc), lv_has ls 5 [(1, .int (nI k)), (0, .ref (ad 1))] → va_P (dC, dI) vwCl (wKx cI cQ ad ag lo ch alv an sh wa pl rm lk br row dn dy lv od sn ++ dpl L pd) H → va_D A (wKx cI cQ ad ag lo ch alv an sh wa pl rm lk br row dn dy lv od sn ++ dpl L pd) → va_S A s.heap H locs → W p l e rX0_greatestAtOneLevel s m args below meth c H locs 0 0 Q (F0 m 2 ls []) := by
    intro n
    induction n with
    | zero => intro k alv hk hm; exact absurd hm (Nat.not_lt_zero _)
    | succ n ih =>
      intro k alv hk hm hex ls H locs hl hP hD hS
      rw [sX0_greatestAtOneLevel_L2] at hex
      refine lv_iload_n hx hb dX0_greatestAtOneLevel_2 rfl (lv_at hl 0 rfl) ?_
      refine lv_aload_n hx hb dX0_greatestAtOneLevel_3 rfl (lv_at hl 1 rfl) ?_
      refine va_get (D := (dC, dI)) (ci := 0) (v := .ref (ad 5)) (C := RX0) (T := TX0) (N := 8) hx hb hts hiX0 hown hK.1 hP 0 rfl rfl 6 (by decide) (hts (.fieldLink RX0 23 "CellDays$Cases" "atLevel" "[I") (by decide +kernel)) (fun _ h9 => h9) rfl dX0_greatestAtOneLevel_4 ?_
      refine va_alen (v := 10) hx hb hK.1 hP 4 0 rfl rfl rfl dX0_greatestAtOneLevel_7 ?_
      refine lv_icmp_ge (tgt := 24) hx hb dX0_greatestAtOneLevel_8 (by decide) (fun c_1 => ?_) (fun c_1 => ?_)
      · rw [if_pos c_1] at hex
        try have n_1 : 10 ≤ k := (nI_leI (a := 10) (b := k) (by omega) (by omega)).mp c_1
        refine lv_iconst (v := 0) hx hb dX0_greatestAtOneLevel_24 (by decide) ?_
        refine lv_istore_n (lv' := [(1, .int 0), (0, .ref (ad 1))]) hx hb dX0_greatestAtOneLevel_25 rfl hl (by decide) rfl (fun ls hl => ?_)
        refine lv_iconst (v := 0) hx hb dX0_greatestAtOneLevel_26 (by decide) ?_
        refine lv_istore_n (lv' := [(2, .int 0), (1, .int 0), (0, .ref (ad 1))]) hx hb dX0_greatestAtOneLevel_27 rfl hl (by decide) rfl (fun ls hl => ?_)
        have L28 : ∀ (n : Nat) (gr : Int32) (j : Nat) (alw : Nat → Int32), (j ≤ 150) → 150 - j < n → sX0_greatestAtOneLevel_L28 ch rm an n gr j alw = ex → ∀ (ls : Array Slot) (H : Heap) (locs : List Loc), lv_has ls 5 [(2, .int (nI j)), (1, .int gr), (0, .ref (ad 1))] → va_P (dC, dI) vwCl (wKx cI cQ ad ag lo ch alw an sh wa pl rm lk br row dn dy lv od sn ++ dpl L pd) H → va_D A (wKx cI cQ ad ag lo ch alw an sh wa pl rm lk br row dn dy lv od sn ++ dpl L pd) → va_S A s.heap H locs → W p l e rX0_greatestAtOneLevel s m args below meth c H locs 0 0 Q (F0 m 28 ls []) := by
          intro n
          induction n with
          | zero => intro gr j alw hj hm; exact absurd hm (Nat.not_lt_zero _)
          | succ n ih =>
            intro gr j alw hj hm hex ls H locs hl hP hD hS
            rw [sX0_greatestAtOneLevel_L28] at hex
            refine lv_iload_n hx hb dX0_greatestAtOneLevel_28 rfl (lv_at hl 0 rfl) ?_
            refine lv_aload_n hx hb dX0_greatestAtOneLevel_29 rfl (lv_at hl 2 rfl) ?_
            refine va_get (D := (dC, dI)) (ci := 0) (v := .int (nI an)) (C := RX0) (T := TX0) (N := 8) hx hb hts hiX0 hown hK.1 hP 0 rfl rfl 7 (by decide) (hts (.fieldLink RX0 26 "CellDays$Cases" "agreed" "I") (by decide +kernel)) (fun _ h9 => h9) rfl dX0_greatestAtOneLevel_30 ?_
            refine lv_icmp_ge (tgt := 87) hx hb dX0_greatestAtOneLevel_33 (by decide) (fun c_2 => ?_) (fun c_2 => ?_)
            · rw [if_pos c_2] at hex
              try have n_2 : an ≤ j := (nI_leI (a := an) (b := j) (by omega) (by omega)).mp c_2
              refine lv_iload_n hx hb dX0_greatestAtOneLevel_87 rfl (lv_at hl 1 rfl) ?_
              subst hex
              exact hret _ _ _ _ dX0_greatestAtOneLevel_88 hP hD hS
            · rw [if_neg c_2] at hex
              try have n_2 : ¬ an ≤ j := fun h9 => c_2 ((nI_leI (a := an) (b := j) (by omega) (by omega)).mpr h9)
              refine lv_aload_n hx hb dX0_greatestAtOneLevel_36 rfl (lv_at hl 2 rfl) ?_
              refine va_get (D := (dC, dI)) (ci := 0) (v := .ref (ad 6)) (C := RX0) (T := TX0) (N := 8) hx hb hts hiX0 hown hK.1 hP 0 rfl rfl 0 (by decide) (hts (.fieldLink RX0 30 "CellDays$Cases" "cell" "LCellDays$Cell;") (by decide +kernel)) (fun _ h9 => h9) rfl dX0_greatestAtOneLevel_37 ?_
              refine lv_aload_n hx hb dX0_greatestAtOneLevel_40 rfl (lv_at hl 2 rfl) ?_
              refine va_get (D := (dC, dI)) (ci := 0) (v := .ref (ad 4)) (C := RX0) (T := TX0) (N := 8) hx hb hts hiX0 hown hK.1 hP 0 rfl rfl 5 (by decide) (hts (.fieldLink RX0 18 "CellDays$Cases" "charges" "[I") (by decide +kernel)) (fun _ h9 => h9) rfl dX0_greatestAtOneLevel_41 ?_
              refine lv_iload_n hx hb dX0_greatestAtOneLevel_44 rfl (lv_at hl 0 rfl) ?_
              refine cd_rSN (As := [.ref (ad 4), .int (nI j)]) (rest := [.ref (ad 6)]) ⟨hx, hb, hml, hown, hts⟩ (kX5_at l dC dI cI cQ cZ (ad 4) 150 ch (nI j) (by decide)) ⟨va_cnB 2 hts gX0_greatestAtOneLevel_X5_at_n104 rfl rfl rfl (hK.2.1 (.methodLinkNest RX0 104 yX5_at RX5) (by decide +kernel)) (hts (.initialized RX5) (by decide +kernel)) (by decide +kernel) ⟨by decide, by decide⟩, hts (.static yX5_at) (by decide +kernel), trivial⟩ hK (hP.sub (ws' := (wAr cI (ad 4) 150 ch)) [3] rfl) rfl hl.1 rfl (Nat.le_of_ble_eq_true rfl) dX0_greatestAtOneLevel_45 ⟨by decide, by decide⟩ ?_
              refine cd_rV (As := [.int (sX5_at 150 ch (nI j))]) (b := (ad 6)) (ci := 1) (q := (RX1, TX1, 6)) (rest := []) ⟨hx, hb, hml, hown, hts⟩ (kX1_levelOf l dC dI cI cQ cZ (ad 6) (ad 7) (ad 8) sh wa pl rm lk br (sX5_at 150 ch (nI j))) (cwV 1 hts gX0_greatestAtOneLevel_X1_levelOf rfl rfl rfl (by decide +kernel) ⟨by decide, by decide⟩) hK (hP.sub (ws' := (wCl cI (ad 6) (ad 7) (ad 8) sh wa pl rm lk br)) [5, 6, 7] rfl) rfl rfl rfl hl.1 rfl (Nat.le_of_ble_eq_true rfl) dX0_greatestAtOneLevel_48 ⟨by decide, by decide⟩ ?_
              refine lv_istore_n (lv' := [(3, .int (sX1_levelOf rm (sX5_at 150 ch (nI j)))), (2, .int (nI j)), (1, .int gr), (0, .ref (ad 1))]) hx hb dX0_greatestAtOneLevel_51 rfl hl (by decide) rfl (fun ls hl => ?_)
              refine lv_aload_n hx hb dX0_greatestAtOneLevel_52 rfl (lv_at hl 3 rfl) ?_
              refine va_get (D := (dC, dI)) (ci := 0) (v := .ref (ad 5)) (C := RX0) (T := TX0) (N := 8) hx hb hts hiX0 hown hK.1 hP 0 rfl rfl 6 (by decide) (hts (.fieldLink RX0 23 "CellDays$Cases" "atLevel" "[I") (by decide +kernel)) (fun _ h9 => h9) rfl dX0_greatestAtOneLevel_53 ?_
              refine lv_iload_n hx hb dX0_greatestAtOneLevel_56 rfl (lv_at hl 0 rfl) ?_
              refine cd_rSN (As := [.ref (ad 5), .int (sX1_levelOf rm (sX5_at 150 ch (nI j)))]) (rest := []) ⟨hx, hb, hml, hown, hts⟩ (kX5_at l dC dI cI cQ cZ (ad 5) 10 alw (sX1_levelOf rm (sX5_at 150 ch (nI j))) (by decide)) ⟨va_cnB 2 hts gX0_greatestAtOneLevel_X5_at_n104 rfl rfl rfl (hK.2.1 (.methodLinkNest RX0 104 yX5_at RX5) (by decide +kernel)) (hts (.initialized RX5) (by decide +kernel)) (by decide +kernel) ⟨by decide, by decide⟩, hts (.static yX5_at) (by decide +kernel), trivial⟩ hK (hP.sub (ws' := (wAr cI (ad 5) 10 alw)) [4] rfl) rfl hl.1 rfl (Nat.le_of_ble_eq_true rfl) dX0_greatestAtOneLevel_57 ⟨by decide, by decide⟩ ?_
              refine lv_iconst (v := 1) hx hb dX0_greatestAtOneLevel_60 (by decide) ?_
              refine lv_iadd hx hb dX0_greatestAtOneLevel_61 ?_
              refine lv_istore (lv' := [(4, .int ((sX5_at 10 alw (sX1_levelOf rm (sX5_at 150 ch (nI j)))) + 1)), (3, .int (sX1_levelOf rm (sX5_at 150 ch (nI j)))), (2, .int (nI j)), (1, .int gr), (0, .ref (ad 1))]) hx hb dX0_greatestAtOneLevel_62 hl (by decide) rfl (fun ls hl => ?_)
              refine lv_aload_n hx hb dX0_greatestAtOneLevel_64 rfl (lv_at hl 4 rfl) ?_
              refine va_get (D := (dC, dI)) (ci := 0) (v := .ref (ad 5)) (C := RX0) (T := TX0) (N := 8) hx hb hts hiX0 hown hK.1 hP 0 rfl rfl 6 (by decide) (hts (.fieldLink RX0 23 "CellDays$Cases" "atLevel" "[I") (by decide +kernel)) (fun _ h9 => h9) rfl dX0_greatestAtOneLevel_65 ?_
              refine lv_iload_n hx hb dX0_greatestAtOneLevel_68 rfl (lv_at hl 1 rfl) ?_
              refine lv_iload hx hb dX0_greatestAtOneLevel_69 (lv_at hl 0 rfl) ?_
              have hDc : va_D A (wAr cI (ad 5) 10 alw) := (hD.sub (ws' := (wAr cI (ad 5) 10 alw)) [4] (by decide) rfl)
              have hFc := cd_F hDc hS hA
              refine cd_wSv (As := [.ref (ad 5), .int (sX1_levelOf rm (sX5_at 150 ch (nI j))), .int ((sX5_at 10 alw (sX1_levelOf rm (sX5_at 150 ch (nI j)))) + 1)]) (rest := []) ⟨hx, hb, hml, hown, hts⟩ (kX5_put l dC dI cI cQ cZ (ad 5) 10 alw (sX1_levelOf rm (sX5_at 150 ch (nI j))) ((sX5_at 10 alw (sX1_levelOf rm (sX5_at 150 ch (nI j)))) + 1) H.size (by decide)) ⟨va_cnB 3 hts gX0_greatestAtOneLevel_X5_put_n100 rfl rfl rfl (hK.2.1 (.methodLinkNest RX0 100 yX5_put RX5) (by decide +kernel)) (hts (.initialized RX5) (by decide +kernel)) (by decide +kernel) ⟨by decide, by decide⟩, hts (.static yX5_put) (by decide +kernel), trivial⟩ hK (hP.sub (ws' := (wAr cI (ad 5) 10 alw)) [4] rfl) hDc hFc hS rfl hl.1 rfl (Nat.le_of_ble_eq_true rfl) dX0_greatestAtOneLevel_71 ⟨by decide, by decide⟩ (fun H1 locs hP1 hD1 hk1 hS => ?_)
              obtain ⟨hP, hD⟩ := va_joinQ (X := wKx cI cQ ad ag lo ch alw an sh wa pl rm lk br row dn dy lv od sn) (cx := (wAr cI (ad 5) 10 alw)) (wr := [(ad 1, .inr (0, [.ref (ad 6), .ref (ad 9), .ref (ad 11), .ref (ad 2), .ref (ad 3), .ref (ad 4), .ref (ad 5), .int (nI an)])), (ad 2, .inl (cI, 150, .inl ag)), (ad 3, .inl (cI, 150, .inl lo)), (ad 4, .inl (cI, 150, .inl ch)), (ad 6, .inr (1, [.ref (ad 7), .ref (ad 8), .int pl, .int rm, .int lk, .int br])), (ad 7, .inl (cI, 3, .inl sh)), (ad 8, .inl (cI, 12, .inl wa)), (ad 9, .inr (2, [.ref (ad 10), .int (nI dn)])), (ad 10, .inl (cQ, 8, .inr (.inr (.inr (.inr row))))), (ad 11, .inr (4, [.ref (ad 12), .ref (ad 13), .ref (ad 14), .int (nI sn)])), (ad 12, .inl (cI, 12, .inl dy)), (ad 13, .inl (cI, 12, .inl lv)), (ad 14, .inl (cI, 12, .inl od))]) (w1 := (wAr cI (ad 5) 10 (sX5_put 10 alw (sX1_levelOf rm (sX5_at 150 ch (nI j))) ((sX5_at 10 alw (sX1_levelOf rm (sX5_at 150 ch (nI j)))) + 1)))) hP hD [4] [0, 1, 2, 3, 5, 6, 7, 8, 9, 10, 11, 12, 13] rfl rfl (by decide) (by decide) hk1 hFc hP1 hD1
              have hP := hP.part (cx := wKx cI cQ ad ag lo ch (sX5_put 10 alw (sX1_levelOf rm (sX5_at 150 ch (nI j))) ((sX5_at 10 alw (sX1_levelOf rm (sX5_at 150 ch (nI j)))) + 1)) an sh wa pl rm lk br row dn dy lv od sn) [0, 1, 2, 3, 13, 4, 5, 6, 7, 8, 9, 10, 11, 12] rfl
              have hD := hD.part (cx := wKx cI cQ ad ag lo ch (sX5_put 10 alw (sX1_levelOf rm (sX5_at 150 ch (nI j))) ((sX5_at 10 alw (sX1_levelOf rm (sX5_at 150 ch (nI j)))) + 1)) an sh wa pl rm lk br row dn dy lv od sn) [0, 1, 2, 3, 13, 4, 5, 6, 7, 8, 9, 10, 11, 12] (by decide) rfl
              generalize H1 = H at hP hS ⊢
              have hP : va_P (dC, dI) vwCl (wKx cI cQ ad ag lo ch (sX5_put 10 alw (sX1_levelOf rm (sX5_at 150 ch (nI j))) ((sX5_at 10 alw (sX1_levelOf rm (sX5_at 150 ch (nI j)))) + 1)) an sh wa pl rm lk br row dn dy lv od sn ++ dpl L pd) H := hP
              have hD : va_D A (wKx cI cQ ad ag lo ch (sX5_put 10 alw (sX1_levelOf rm (sX5_at 150 ch (nI j))) ((sX5_at 10 alw (sX1_levelOf rm (sX5_at 150 ch (nI j)))) + 1)) an sh wa pl rm lk br row dn dy lv od sn ++ dpl L pd) := hD
              refine lv_iload_n hx hb dX0_greatestAtOneLevel_74 rfl (lv_at hl 3 rfl) ?_
              refine lv_iload hx hb dX0_greatestAtOneLevel_75 (lv_at hl 0 rfl) ?_
              refine va_mmax hx hb (by rw [hml]; exact hl.1.symm) hown (hts (.methodLink RX0 118 Lib.Math.max.name) (by decide +kernel)) (hts (.static Lib.Math.max.name) (by decide +kernel)) (hts (.initialized "java/lang/Math") (by decide +kernel)) (hts (.code Lib.Math.max.name Lib.Math.max.code 2 (some .int)) (by decide +kernel)) (by decide) (Nat.le_of_ble_eq_true rfl) (by decide) (by decide) dX0_greatestAtOneLevel_77 ?_
              refine lv_istore_n (lv' := [(1, .int (if gr < ((sX5_at 10 alw (sX1_levelOf rm (sX5_at 150 ch (nI j)))) + 1) then ((sX5_at 10 alw (sX1_levelOf rm (sX5_at 150 ch (nI j)))) + 1) else gr)), (4, .int ((sX5_at 10 alw (sX1_levelOf rm (sX5_at 150 ch (nI j)))) + 1)), (3, .int (sX1_levelOf rm (sX5_at 150 ch (nI j)))), (2, .int (nI j)), (0, .ref (ad 1))]) hx hb dX0_greatestAtOneLevel_80 rfl hl (by decide) rfl (fun ls hl => ?_)
              refine lv_iinc (v := nI (j + 1)) (lv' := [(2, .int (nI (j + 1))), (1, .int (if gr < ((sX5_at 10 alw (sX1_levelOf rm (sX5_at 150 ch (nI j)))) + 1) then ((sX5_at 10 alw (sX1_levelOf rm (sX5_at 150 ch (nI j)))) + 1) else gr)), (4, .int ((sX5_at 10 alw (sX1_levelOf rm (sX5_at 150 ch (nI j)))) + 1)), (3, .int (sX1_levelOf rm (sX5_at 150 ch (nI j)))), (0, .ref (ad 1))]) hx hb dX0_greatestAtOneLevel_81 hl (k := 3) rfl (nI_1 j) (by decide) rfl (fun ls hl => ?_)
              refine lv_goto (tgt := 28) hx hb dX0_greatestAtOneLevel_84 (by decide) ?_
              exact ih (if gr < ((sX5_at 10 alw (sX1_levelOf rm (sX5_at 150 ch (nI j)))) + 1) then ((sX5_at 10 alw (sX1_levelOf rm (sX5_at 150 ch (nI j)))) + 1) else gr) (j + 1) (sX5_put 10 alw (sX1_levelOf rm (sX5_at 150 ch (nI j))) ((sX5_at 10 alw (sX1_levelOf rm (sX5_at 150 ch (nI j)))) + 1)) (by omega) (by omega) hex _ _ _ (lv_sub hl [0, 1, 4] rfl) hP hD hS
        exact L28 151 0 0 alv (by decide) (by decide) hex _ _ _ (lv_sub hl [0, 1, 2] rfl) hP hD hS
      · rw [if_neg c_1] at hex
        try have n_1 : ¬ 10 ≤ k := fun h9 => c_1 ((nI_leI (a := 10) (b := k) (by omega) (by omega)).mpr h9)
        refine lv_aload_n hx hb dX0_greatestAtOneLevel_11 rfl (lv_at hl 1 rfl) ?_
        refine va_get (D := (dC, dI)) (ci := 0) (v := .ref (ad 5)) (C := RX0) (T := TX0) (N := 8) hx hb hts hiX0 hown hK.1 hP 0 rfl rfl 6 (by decide) (hts (.fieldLink RX0 23 "CellDays$Cases" "atLevel" "[I") (by decide +kernel)) (fun _ h9 => h9) rfl dX0_greatestAtOneLevel_12 ?_
        refine lv_iload_n hx hb dX0_greatestAtOneLevel_15 rfl (lv_at hl 0 rfl) ?_
        refine lv_iconst (v := 0) hx hb dX0_greatestAtOneLevel_16 (by decide) ?_
        refine va_iast hx hb hK.1 hP hD hS 4 0 rfl rfl (vp_in_nI (n := k) (N := 10) (by omega) (by omega)) dX0_greatestAtOneLevel_17 (fun H locs hP hD hS => ?_)
        rw [nI_clamp (show k < 2 ^ 31 by omega)] at hP hD
        have hP : va_P (dC, dI) vwCl (wKx cI cQ ad ag lo ch (upd alv k 0) an sh wa pl rm lk br row dn dy lv od sn ++ dpl L pd) H := hP
        have hD : va_D A (wKx cI cQ ad ag lo ch (upd alv k 0) an sh wa pl rm lk br row dn dy lv od sn ++ dpl L pd) := hD
        refine lv_iinc (v := nI (k + 1)) (lv' := [(1, .int (nI (k + 1))), (0, .ref (ad 1))]) hx hb dX0_greatestAtOneLevel_18 hl (k := 0) rfl (nI_1 k) (by decide) rfl (fun ls hl => ?_)
        refine lv_goto (tgt := 2) hx hb dX0_greatestAtOneLevel_21 (by decide) ?_
        exact ih (k + 1) (upd alv k 0) (by omega) (by omega) hex _ _ _ (lv_sub hl [0, 1] rfl) hP hD hS
  exact L2 11 0 al (by decide) (by decide) hex _ _ _ (lv_sub hl [0, 1] rfl) hP hD hS

def rX0_passDay : Room := { frames := 2, cells := 0, slots := 0, locals := 43 }
def sX0_passDay_L11 (ag : Nat → Int32) (lo : Nat → Int32) (an : Nat) (lk : Int32) : Nat → Int32 → Nat → (Nat → Int32) → (Nat → Int32)
  | 0, sr, k, chv => (fun _ => 0)
  | n + 1, sr, k, chv => (if (nI an) ≤ (nI k) then chv else sX0_passDay_L11 ag lo an lk n sr (k + 1) (sX5_put 150 chv (nI k) (sX1_chargeBehind (sX5_at 150 chv (nI k)) sr (sX0_leakOf lk (sX5_at 150 ag (nI k))) (sX5_at 150 lo (nI k)))))
def sX0_passDay (ag : Nat → Int32) (lo : Nat → Int32) (ch : Nat → Int32) (an : Nat) (sh : Nat → Int32) (wa : Nat → Int32) (pl : Int32) (lk : Int32) (dd : Int32) : (Nat → Int32) := sX0_passDay_L11 ag lo an lk 151 (sX1_shareOn sh wa pl dd) 0 ch
set_option maxHeartbeats 4000000 in
set_option maxRecDepth 100000 in
theorem kX0_passDay (l : Launch) (dC : Nat → ClassId) (dI : Nat → Nat → Nat) (cI cQ cZ : ClassId) (ad : Nat → Nat) (ag : Nat → Int32) (lo : Nat → Int32) (ch : Nat → Int32) (al : Nat → Int32) (an : Nat) (sh : Nat → Int32) (wa : Nat → Int32) (pl : Int32) (rm : Int32) (lk : Int32) (br : Int32) (row : Nat → Option Nat) (dn : Nat) (dy : Nat → Int32) (lv : Nat → Int32) (od : Nat → Int32) (sn : Nat) (L : List Nat) (pd : Nat → DT) (dd : Int32) (sz : Nat) (han : an ≤ 150) : Met l yX0_passDay wsX0_passDay rX0_passDay (va_Pc [.ref (ad 1), .int dd] (cd_pre dC dI cI cQ cZ (wKx cI cQ ad ag lo ch al an sh wa pl rm lk br row dn dy lv od sn ++ dpl L pd) sz)) (va_Qv (fun _ => True) (cd_post dC dI (wKx cI cQ ad ag lo ch al an sh wa pl rm lk br row dn dy lv od sn ++ dpl L pd) (wKx cI cQ ad ag lo (sX0_passDay ag lo ch an sh wa pl lk dd) al an sh wa pl rm lk br row dn dy lv od sn ++ dpl L pd) sz) (va_A (wKx cI cQ ad ag lo ch al an sh wa pl rm lk br row dn dy lv od sn ++ dpl L pd) sz)) 0 0 (va_A (wKx cI cQ ad ag lo ch al an sh wa pl rm lk br row dn dy lv od sn ++ dpl L pd) sz) := by
  have hiX0 : ∀ w ∈ u_ws RX0 TX0 8, w ∈ wsX0_passDay := by decide +kernel
  generalize hex : sX0_passDay ag lo ch an sh wa pl lk dd = ex
  unfold sX0_passDay at hex
  refine cd_mMv [.ref (ad 1), .int dd] (by decide) rfl (Nat.le_of_ble_eq_true rfl) ?_
  intro Q A p e s m args below meth c ls hx hb hml hown hts hA hinit hret hK hP hD hS hl
  have hl : lv_has ls 5 [(0, .ref (ad 1)), (1, .int dd)] := hl
  refine lv_aload_n hx hb dX0_passDay_0 rfl (lv_at hl 0 rfl) ?_
  refine va_get (D := (dC, dI)) (ci := 0) (v := .ref (ad 6)) (C := RX0) (T := TX0) (N := 8) hx hb hts hiX0 hown hK.1 hP 0 rfl rfl 0 (by decide) (hts (.fieldLink RX0 30 "CellDays$Cases" "cell" "LCellDays$Cell;") (by decide +kernel)) (fun _ h9 => h9) rfl dX0_passDay_1 ?_
  refine lv_iload_n hx hb dX0_passDay_4 rfl (lv_at hl 1 rfl) ?_
  refine cd_rV (As := [.int dd]) (b := (ad 6)) (ci := 1) (q := (RX1, TX1, 6)) (rest := []) ⟨hx, hb, hml, hown, hts⟩ (kX1_shareOn l dC dI cI cQ cZ (ad 6) (ad 7) (ad 8) sh wa pl rm lk br dd) (cwV 1 hts gX0_passDay_X1_shareOn rfl rfl rfl (by decide +kernel) ⟨by decide, by decide⟩) hK (hP.sub (ws' := (wCl cI (ad 6) (ad 7) (ad 8) sh wa pl rm lk br)) [5, 6, 7] rfl) rfl rfl rfl hl.1 rfl (Nat.le_of_ble_eq_true rfl) dX0_passDay_5 ⟨by decide, by decide⟩ ?_
  refine lv_istore_n (lv' := [(2, .int (sX1_shareOn sh wa pl dd)), (0, .ref (ad 1)), (1, .int dd)]) hx hb dX0_passDay_8 rfl hl (by decide) rfl (fun ls hl => ?_)
  refine lv_iconst (v := 0) hx hb dX0_passDay_9 (by decide) ?_
  refine lv_istore_n (lv' := [(3, .int 0), (2, .int (sX1_shareOn sh wa pl dd)), (0, .ref (ad 1)), (1, .int dd)]) hx hb dX0_passDay_10 rfl hl (by decide) rfl (fun ls hl => ?_)
  have L11 : ∀ (n : Nat) (sr : Int32) (k : Nat) (chv : Nat → Int32), (k ≤ 150) → 150 - k < n → sX0_passDay_L11 ag lo an lk n sr k chv = ex → ∀ (ls : Array Slot) (H : Heap) (locs : List Loc), lv_has ls 5 [(3, .int (nI k)), (2, .int sr), (0, .ref (ad 1)), (1, .int dd)] → va_P (dC, dI) vwCl (wKx cI cQ ad ag lo chv al an sh wa pl rm lk br row dn dy lv od sn ++ dpl L pd) H → va_D A (wKx cI cQ ad ag lo chv al an sh wa pl rm lk br row dn dy lv od sn ++ dpl L pd) → va_S A s.heap H locs → W p l e rX0_passDay s m args below meth c H locs 0 0 Q (F0 m 11 ls []) := by
    intro n
    induction n with
    | zero => intro sr k chv hk hm; exact absurd hm (Nat.not_lt_zero _)
    | succ n ih =>
      intro sr k chv hk hm hex ls H locs hl hP hD hS
      rw [sX0_passDay_L11] at hex
      refine lv_iload_n hx hb dX0_passDay_11 rfl (lv_at hl 0 rfl) ?_
      refine lv_aload_n hx hb dX0_passDay_12 rfl (lv_at hl 2 rfl) ?_
      refine va_get (D := (dC, dI)) (ci := 0) (v := .int (nI an)) (C := RX0) (T := TX0) (N := 8) hx hb hts hiX0 hown hK.1 hP 0 rfl rfl 7 (by decide) (hts (.fieldLink RX0 26 "CellDays$Cases" "agreed" "I") (by decide +kernel)) (fun _ h9 => h9) rfl dX0_passDay_13 ?_
      refine lv_icmp_ge (tgt := 73) hx hb dX0_passDay_16 (by decide) (fun c_1 => ?_) (fun c_1 => ?_)
      · rw [if_pos c_1] at hex
        try have n_1 : an ≤ k := (nI_leI (a := an) (b := k) (by omega) (by omega)).mp c_1
        subst hex
        exact hret _ _ _ _ dX0_passDay_73 hP hD hS
      · rw [if_neg c_1] at hex
        try have n_1 : ¬ an ≤ k := fun h9 => c_1 ((nI_leI (a := an) (b := k) (by omega) (by omega)).mpr h9)
        refine lv_aload_n hx hb dX0_passDay_19 rfl (lv_at hl 2 rfl) ?_
        refine lv_aload_n hx hb dX0_passDay_20 rfl (lv_at hl 2 rfl) ?_
        refine va_get (D := (dC, dI)) (ci := 0) (v := .ref (ad 2)) (C := RX0) (T := TX0) (N := 8) hx hb hts hiX0 hown hK.1 hP 0 rfl rfl 3 (by decide) (hts (.fieldLink RX0 11 "CellDays$Cases" "agreeing" "[I") (by decide +kernel)) (fun _ h9 => h9) rfl dX0_passDay_21 ?_
        refine lv_iload_n hx hb dX0_passDay_24 rfl (lv_at hl 0 rfl) ?_
        refine cd_rSN (As := [.ref (ad 2), .int (nI k)]) (rest := [.ref (ad 1)]) ⟨hx, hb, hml, hown, hts⟩ (kX5_at l dC dI cI cQ cZ (ad 2) 150 ag (nI k) (by decide)) ⟨va_cnB 2 hts gX0_passDay_X5_at_n104 rfl rfl rfl (hK.2.1 (.methodLinkNest RX0 104 yX5_at RX5) (by decide +kernel)) (hts (.initialized RX5) (by decide +kernel)) (by decide +kernel) ⟨by decide, by decide⟩, hts (.static yX5_at) (by decide +kernel), trivial⟩ hK (hP.sub (ws' := (wAr cI (ad 2) 150 ag)) [1] rfl) rfl hl.1 rfl (Nat.le_of_ble_eq_true rfl) dX0_passDay_25 ⟨by decide, by decide⟩ ?_
        refine cd_rV (As := [.int (sX5_at 150 ag (nI k))]) (b := (ad 1)) (ci := 0) (q := (RX0, TX0, 8)) (rest := []) ⟨hx, hb, hml, hown, hts⟩ (kX0_leakOf l dC dI cI cQ cZ ad ag lo chv al an sh wa pl rm lk br row dn dy lv od sn L pd (sX5_at 150 ag (nI k))) (cwV 1 hts gX0_passDay_X0_leakOf rfl rfl rfl (by decide +kernel) ⟨by decide, by decide⟩) hK hP rfl rfl rfl hl.1 rfl (Nat.le_of_ble_eq_true rfl) dX0_passDay_28 ⟨by decide, by decide⟩ ?_
        refine lv_istore (lv' := [(4, .int (sX0_leakOf lk (sX5_at 150 ag (nI k)))), (3, .int (nI k)), (2, .int sr), (0, .ref (ad 1)), (1, .int dd)]) hx hb dX0_passDay_31 hl (by decide) rfl (fun ls hl => ?_)
        refine lv_aload_n hx hb dX0_passDay_33 rfl (lv_at hl 3 rfl) ?_
        refine va_get (D := (dC, dI)) (ci := 0) (v := .ref (ad 4)) (C := RX0) (T := TX0) (N := 8) hx hb hts hiX0 hown hK.1 hP 0 rfl rfl 5 (by decide) (hts (.fieldLink RX0 18 "CellDays$Cases" "charges" "[I") (by decide +kernel)) (fun _ h9 => h9) rfl dX0_passDay_34 ?_
        refine lv_iload_n hx hb dX0_passDay_37 rfl (lv_at hl 1 rfl) ?_
        refine lv_aload_n hx hb dX0_passDay_38 rfl (lv_at hl 3 rfl) ?_
        refine va_get (D := (dC, dI)) (ci := 0) (v := .ref (ad 6)) (C := RX0) (T := TX0) (N := 8) hx hb hts hiX0 hown hK.1 hP 0 rfl rfl 0 (by decide) (hts (.fieldLink RX0 30 "CellDays$Cases" "cell" "LCellDays$Cell;") (by decide +kernel)) (fun _ h9 => h9) rfl dX0_passDay_39 ?_
        refine lv_aload_n hx hb dX0_passDay_42 rfl (lv_at hl 3 rfl) ?_
        refine va_get (D := (dC, dI)) (ci := 0) (v := .ref (ad 4)) (C := RX0) (T := TX0) (N := 8) hx hb hts hiX0 hown hK.1 hP 0 rfl rfl 5 (by decide) (hts (.fieldLink RX0 18 "CellDays$Cases" "charges" "[I") (by decide +kernel)) (fun _ h9 => h9) rfl dX0_passDay_43 ?_
        refine lv_iload_n hx hb dX0_passDay_46 rfl (lv_at hl 1 rfl) ?_
        refine cd_rSN (As := [.ref (ad 4), .int (nI k)]) (rest := [.ref (ad 6), .int (nI k), .ref (ad 4)]) ⟨hx, hb, hml, hown, hts⟩ (kX5_at l dC dI cI cQ cZ (ad 4) 150 chv (nI k) (by decide)) ⟨va_cnB 2 hts gX0_passDay_X5_at_n104 rfl rfl rfl (hK.2.1 (.methodLinkNest RX0 104 yX5_at RX5) (by decide +kernel)) (hts (.initialized RX5) (by decide +kernel)) (by decide +kernel) ⟨by decide, by decide⟩, hts (.static yX5_at) (by decide +kernel), trivial⟩ hK (hP.sub (ws' := (wAr cI (ad 4) 150 chv)) [3] rfl) rfl hl.1 rfl (Nat.le_of_ble_eq_true rfl) dX0_passDay_47 ⟨by decide, by decide⟩ ?_
        refine lv_iload_n hx hb dX0_passDay_50 rfl (lv_at hl 2 rfl) ?_
        refine lv_iload hx hb dX0_passDay_51 (lv_at hl 0 rfl) ?_
        refine lv_aload_n hx hb dX0_passDay_53 rfl (lv_at hl 3 rfl) ?_
        refine va_get (D := (dC, dI)) (ci := 0) (v := .ref (ad 3)) (C := RX0) (T := TX0) (N := 8) hx hb hts hiX0 hown hK.1 hP 0 rfl rfl 4 (by decide) (hts (.fieldLink RX0 15 "CellDays$Cases" "loads" "[I") (by decide +kernel)) (fun _ h9 => h9) rfl dX0_passDay_54 ?_
        refine lv_iload_n hx hb dX0_passDay_57 rfl (lv_at hl 1 rfl) ?_
        refine cd_rSN (As := [.ref (ad 3), .int (nI k)]) (rest := [.int (sX0_leakOf lk (sX5_at 150 ag (nI k))), .int sr, .int (sX5_at 150 chv (nI k)), .ref (ad 6), .int (nI k), .ref (ad 4)]) ⟨hx, hb, hml, hown, hts⟩ (kX5_at l dC dI cI cQ cZ (ad 3) 150 lo (nI k) (by decide)) ⟨va_cnB 2 hts gX0_passDay_X5_at_n104 rfl rfl rfl (hK.2.1 (.methodLinkNest RX0 104 yX5_at RX5) (by decide +kernel)) (hts (.initialized RX5) (by decide +kernel)) (by decide +kernel) ⟨by decide, by decide⟩, hts (.static yX5_at) (by decide +kernel), trivial⟩ hK (hP.sub (ws' := (wAr cI (ad 3) 150 lo)) [2] rfl) rfl hl.1 rfl (Nat.le_of_ble_eq_true rfl) dX0_passDay_58 ⟨by decide, by decide⟩ ?_
        refine cd_rV (As := [.int (sX5_at 150 chv (nI k)), .int sr, .int (sX0_leakOf lk (sX5_at 150 ag (nI k))), .int (sX5_at 150 lo (nI k))]) (b := (ad 6)) (ci := 1) (q := (RX1, TX1, 6)) (rest := [.int (nI k), .ref (ad 4)]) ⟨hx, hb, hml, hown, hts⟩ (kX1_chargeBehind l dC dI cI cQ cZ (ad 6) (ad 7) (ad 8) sh wa pl rm lk br (sX5_at 150 chv (nI k)) sr (sX0_leakOf lk (sX5_at 150 ag (nI k))) (sX5_at 150 lo (nI k))) (cwV 4 hts gX0_passDay_X1_chargeBehind rfl rfl rfl (by decide +kernel) ⟨by decide, by decide⟩) hK (hP.sub (ws' := (wCl cI (ad 6) (ad 7) (ad 8) sh wa pl rm lk br)) [5, 6, 7] rfl) rfl rfl rfl hl.1 rfl (Nat.le_of_ble_eq_true rfl) dX0_passDay_61 ⟨by decide, by decide⟩ ?_
        have hDc : va_D A (wAr cI (ad 4) 150 chv) := (hD.sub (ws' := (wAr cI (ad 4) 150 chv)) [3] (by decide) rfl)
        have hFc := cd_F hDc hS hA
        refine cd_wSv (As := [.ref (ad 4), .int (nI k), .int (sX1_chargeBehind (sX5_at 150 chv (nI k)) sr (sX0_leakOf lk (sX5_at 150 ag (nI k))) (sX5_at 150 lo (nI k)))]) (rest := []) ⟨hx, hb, hml, hown, hts⟩ (kX5_put l dC dI cI cQ cZ (ad 4) 150 chv (nI k) (sX1_chargeBehind (sX5_at 150 chv (nI k)) sr (sX0_leakOf lk (sX5_at 150 ag (nI k))) (sX5_at 150 lo (nI k))) H.size (by decide)) ⟨va_cnB 3 hts gX0_passDay_X5_put_n100 rfl rfl rfl (hK.2.1 (.methodLinkNest RX0 100 yX5_put RX5) (by decide +kernel)) (hts (.initialized RX5) (by decide +kernel)) (by decide +kernel) ⟨by decide, by decide⟩, hts (.static yX5_put) (by decide +kernel), trivial⟩ hK (hP.sub (ws' := (wAr cI (ad 4) 150 chv)) [3] rfl) hDc hFc hS rfl hl.1 rfl (Nat.le_of_ble_eq_true rfl) dX0_passDay_64 ⟨by decide, by decide⟩ (fun H1 locs hP1 hD1 hk1 hS => ?_)
        obtain ⟨hP, hD⟩ := va_joinQ (X := wKx cI cQ ad ag lo chv al an sh wa pl rm lk br row dn dy lv od sn) (cx := (wAr cI (ad 4) 150 chv)) (wr := [(ad 1, .inr (0, [.ref (ad 6), .ref (ad 9), .ref (ad 11), .ref (ad 2), .ref (ad 3), .ref (ad 4), .ref (ad 5), .int (nI an)])), (ad 2, .inl (cI, 150, .inl ag)), (ad 3, .inl (cI, 150, .inl lo)), (ad 5, .inl (cI, 10, .inl al)), (ad 6, .inr (1, [.ref (ad 7), .ref (ad 8), .int pl, .int rm, .int lk, .int br])), (ad 7, .inl (cI, 3, .inl sh)), (ad 8, .inl (cI, 12, .inl wa)), (ad 9, .inr (2, [.ref (ad 10), .int (nI dn)])), (ad 10, .inl (cQ, 8, .inr (.inr (.inr (.inr row))))), (ad 11, .inr (4, [.ref (ad 12), .ref (ad 13), .ref (ad 14), .int (nI sn)])), (ad 12, .inl (cI, 12, .inl dy)), (ad 13, .inl (cI, 12, .inl lv)), (ad 14, .inl (cI, 12, .inl od))]) (w1 := (wAr cI (ad 4) 150 (sX5_put 150 chv (nI k) (sX1_chargeBehind (sX5_at 150 chv (nI k)) sr (sX0_leakOf lk (sX5_at 150 ag (nI k))) (sX5_at 150 lo (nI k)))))) hP hD [3] [0, 1, 2, 4, 5, 6, 7, 8, 9, 10, 11, 12, 13] rfl rfl (by decide) (by decide) hk1 hFc hP1 hD1
        have hP := hP.part (cx := wKx cI cQ ad ag lo (sX5_put 150 chv (nI k) (sX1_chargeBehind (sX5_at 150 chv (nI k)) sr (sX0_leakOf lk (sX5_at 150 ag (nI k))) (sX5_at 150 lo (nI k)))) al an sh wa pl rm lk br row dn dy lv od sn) [0, 1, 2, 13, 3, 4, 5, 6, 7, 8, 9, 10, 11, 12] rfl
        have hD := hD.part (cx := wKx cI cQ ad ag lo (sX5_put 150 chv (nI k) (sX1_chargeBehind (sX5_at 150 chv (nI k)) sr (sX0_leakOf lk (sX5_at 150 ag (nI k))) (sX5_at 150 lo (nI k)))) al an sh wa pl rm lk br row dn dy lv od sn) [0, 1, 2, 13, 3, 4, 5, 6, 7, 8, 9, 10, 11, 12] (by decide) rfl
        generalize H1 = H at hP hS ⊢
        have hP : va_P (dC, dI) vwCl (wKx cI cQ ad ag lo (sX5_put 150 chv (nI k) (sX1_chargeBehind (sX5_at 150 chv (nI k)) sr (sX0_leakOf lk (sX5_at 150 ag (nI k))) (sX5_at 150 lo (nI k)))) al an sh wa pl rm lk br row dn dy lv od sn ++ dpl L pd) H := hP
        have hD : va_D A (wKx cI cQ ad ag lo (sX5_put 150 chv (nI k) (sX1_chargeBehind (sX5_at 150 chv (nI k)) sr (sX0_leakOf lk (sX5_at 150 ag (nI k))) (sX5_at 150 lo (nI k)))) al an sh wa pl rm lk br row dn dy lv od sn ++ dpl L pd) := hD
        refine lv_iinc (v := nI (k + 1)) (lv' := [(3, .int (nI (k + 1))), (4, .int (sX0_leakOf lk (sX5_at 150 ag (nI k)))), (2, .int sr), (0, .ref (ad 1)), (1, .int dd)]) hx hb dX0_passDay_67 hl (k := 1) rfl (nI_1 k) (by decide) rfl (fun ls hl => ?_)
        refine lv_goto (tgt := 11) hx hb dX0_passDay_70 (by decide) ?_
        exact ih sr (k + 1) (sX5_put 150 chv (nI k) (sX1_chargeBehind (sX5_at 150 chv (nI k)) sr (sX0_leakOf lk (sX5_at 150 ag (nI k))) (sX5_at 150 lo (nI k)))) (by omega) (by omega) hex _ _ _ (lv_sub hl [0, 2, 3, 4] rfl) hP hD hS
  exact L11 151 (sX1_shareOn sh wa pl dd) 0 ch (by decide) (by decide) hex _ _ _ (lv_sub hl [0, 1, 2, 3] rfl) hP hD hS

def rX0_dayThatTellsMost : Room := { frames := 5, cells := 0, slots := 0, locals := 113 }
def sX0_dayThatTellsMost_L23 (ag : Nat → Int32) (an : Nat) (sh : Nat → Int32) (wa : Nat → Int32) (pl : Int32) (rm : Int32) (lk : Int32) : Nat → Int32 → Int32 → Nat → (Nat → Int32) → (Nat → Int32) → (Nat → Int32) → Int32 × (Nat → Int32) × (Nat → Int32) × (Nat → Int32)
  | 0, bs, lst, k, lov, chv, alv => (0, (fun _ => 0), (fun _ => 0), (fun _ => 0))
  | n + 1, bs, lst, k, lov, chv, alv => (if 400 ≤ (nI k) then (bs, lov, chv, alv) else (if lst ≤ ((sX0_greatestAtOneLevel chv alv an rm).1) then (if (sX5_at 10 ((sX0_greatestAtOneLevel chv alv an rm).2) 0) = (nI an) then (bs, lov, chv, (sX0_greatestAtOneLevel chv alv an rm).2) else sX0_dayThatTellsMost_L23 ag an sh wa pl rm lk n bs lst (k + 1) lov (sX0_passDay ag lov chv an sh wa pl lk (nI k)) ((sX0_greatestAtOneLevel chv alv an rm).2)) else (if (sX5_at 10 ((sX0_greatestAtOneLevel chv alv an rm).2) 0) = (nI an) then (nI k, lov, chv, (sX0_greatestAtOneLevel chv alv an rm).2) else sX0_dayThatTellsMost_L23 ag an sh wa pl rm lk n (nI k) ((sX0_greatestAtOneLevel chv alv an rm).1) (k + 1) lov (sX0_passDay ag lov chv an sh wa pl lk (nI k)) ((sX0_greatestAtOneLevel chv alv an rm).2))))
def sX0_dayThatTellsMost (ag : Nat → Int32) (lo : Nat → Int32) (ch : Nat → Int32) (al : Nat → Int32) (an : Nat) (sh : Nat → Int32) (wa : Nat → Int32) (pl : Int32) (rm : Int32) (lk : Int32) (br : Int32) (row : Nat → Option Nat) (dn : Nat) (pd : Nat → DT) : Int32 × (Nat → Int32) × (Nat → Int32) × (Nat → Int32) := (if 2 ≤ (nI an) then sX0_dayThatTellsMost_L23 ag an sh wa pl rm lk 401 0 151 0 ((sX0_startAgreeing ag lo ch an rm br row dn pd).1) ((sX0_startAgreeing ag lo ch an rm br row dn pd).2) al else ((-9), lo, ch, al))
set_option maxHeartbeats 4000000 in
set_option maxRecDepth 100000 in
theorem kX0_dayThatTellsMost (l : Launch) (dC : Nat → ClassId) (dI : Nat → Nat → Nat) (cI cQ cZ : ClassId) (ad : Nat → Nat) (ag : Nat → Int32) (lo : Nat → Int32) (ch : Nat → Int32) (al : Nat → Int32) (an : Nat) (sh : Nat → Int32) (wa : Nat → Int32) (pl : Int32) (rm : Int32) (lk : Int32) (br : Int32) (row : Nat → Option Nat) (dn : Nat) (dy : Nat → Int32) (lv : Nat → Int32) (od : Nat → Int32) (sn : Nat) (L : List Nat) (pd : Nat → DT) (sz : Nat) (hdn : dn ≤ 8) (hrw : ∀ j y, row j = some y → y ∈ L) (han : an ≤ 150) : Met l yX0_dayThatTellsMost wsX0_dayThatTellsMost rX0_dayThatTellsMost (va_Pc [.ref (ad 1)] (cd_pre dC dI cI cQ cZ (wKx cI cQ ad ag lo ch al an sh wa pl rm lk br row dn dy lv od sn ++ dpl L pd) sz)) (va_Qi (fun r _ => r = (sX0_dayThatTellsMost ag lo ch al an sh wa pl rm lk br row dn pd).1) (cd_post dC dI (wKx cI cQ ad ag lo ch al an sh wa pl rm lk br row dn dy lv od sn ++ dpl L pd) (wKx cI cQ ad ag ((sX0_dayThatTellsMost ag lo ch al an sh wa pl rm lk br row dn pd).2.1) ((sX0_dayThatTellsMost ag lo ch al an sh wa pl rm lk br row dn pd).2.2.1) ((sX0_dayThatTellsMost ag lo ch al an sh wa pl rm lk br row dn pd).2.2.2) an sh wa pl rm lk br row dn dy lv od sn ++ dpl L pd) sz) (va_A (wKx cI cQ ad ag lo ch al an sh wa pl rm lk br row dn dy lv od sn ++ dpl L pd) sz)) 0 0 (va_A (wKx cI cQ ad ag lo ch al an sh wa pl rm lk br row dn dy lv od sn ++ dpl L pd) sz) := by
  have hiX0 : ∀ w ∈ u_ws RX0 TX0 8, w ∈ wsX0_dayThatTellsMost := by decide +kernel
  generalize hex : sX0_dayThatTellsMost ag lo ch al an sh wa pl rm lk br row dn pd = ex
  unfold sX0_dayThatTellsMost at hex
  refine cd_mMi [.ref (ad 1)] (by decide) rfl (Nat.le_of_ble_eq_true rfl) ?_
  intro Q A p e s m args below meth c ls hx hb hml hown hts hA hret hK hP hD hS hl
  have hl : lv_has ls 5 [(0, .ref (ad 1))] := hl
  refine lv_aload_n hx hb dX0_dayThatTellsMost_0 rfl (lv_at hl 0 rfl) ?_
  refine va_get (D := (dC, dI)) (ci := 0) (v := .int (nI an)) (C := RX0) (T := TX0) (N := 8) hx hb hts hiX0 hown hK.1 hP 0 rfl rfl 7 (by decide) (hts (.fieldLink RX0 26 "CellDays$Cases" "agreed" "I") (by decide +kernel)) (fun _ h9 => h9) rfl dX0_dayThatTellsMost_1 ?_
  refine lv_iconst (v := 2) hx hb dX0_dayThatTellsMost_4 (by decide) ?_
  refine lv_icmp_ge (tgt := 11) hx hb dX0_dayThatTellsMost_5 (by decide) (fun c_1 => ?_) (fun c_1 => ?_)
  · rw [if_pos c_1] at hex
    try have n_1 : 2 ≤ an := (nI_leI (a := 2) (b := an) (by omega) (by omega)).mp c_1
    refine lv_aload_n hx hb dX0_dayThatTellsMost_11 rfl (lv_at hl 0 rfl) ?_
    have hDc : va_D A (wKx cI cQ ad ag lo ch al an sh wa pl rm lk br row dn dy lv od sn ++ dpl L pd) := hD
    have hFc := cd_F hDc hS hA
    refine cd_wVv (As := []) (b := (ad 1)) (ci := 0) (q := (RX0, TX0, 8)) (rest := []) ⟨hx, hb, hml, hown, hts⟩ (kX0_startAgreeing l dC dI cI cQ cZ ad ag lo ch al an sh wa pl rm lk br row dn dy lv od sn L pd s.heap.size hdn hrw han) (cwV 0 hts gX0_dayThatTellsMost_X0_startAgreeing rfl rfl rfl (by decide +kernel) ⟨by decide, by decide⟩) hK hP hDc hFc hS rfl rfl rfl hl.1 rfl (Nat.le_of_ble_eq_true rfl) dX0_dayThatTellsMost_12 ⟨by decide, by decide⟩ (fun H1 locs hP1 hD1 hk1 hS => ?_)
    have hP := hP1
    have hD := cd_DA hD1 hFc
    generalize H1 = H at hP hS ⊢
    have hP : va_P (dC, dI) vwCl (wKx cI cQ ad ag ((sX0_startAgreeing ag lo ch an rm br row dn pd).1) ((sX0_startAgreeing ag lo ch an rm br row dn pd).2) al an sh wa pl rm lk br row dn dy lv od sn ++ dpl L pd) H := hP
    have hD : va_D A (wKx cI cQ ad ag ((sX0_startAgreeing ag lo ch an rm br row dn pd).1) ((sX0_startAgreeing ag lo ch an rm br row dn pd).2) al an sh wa pl rm lk br row dn dy lv od sn ++ dpl L pd) := hD
    refine lv_iconst (v := 0) hx hb dX0_dayThatTellsMost_15 (by decide) ?_
    refine lv_istore_n (lv' := [(1, .int 0), (0, .ref (ad 1))]) hx hb dX0_dayThatTellsMost_16 rfl hl (by decide) rfl (fun ls hl => ?_)
    refine lv_sipush (v := 151) hx hb dX0_dayThatTellsMost_17 (by decide) ?_
    refine lv_istore_n (lv' := [(2, .int 151), (1, .int 0), (0, .ref (ad 1))]) hx hb dX0_dayThatTellsMost_20 rfl hl (by decide) rfl (fun ls hl => ?_)
    refine lv_iconst (v := 0) hx hb dX0_dayThatTellsMost_21 (by decide) ?_
    refine lv_istore_n (lv' := [(3, .int 0), (2, .int 151), (1, .int 0), (0, .ref (ad 1))]) hx hb dX0_dayThatTellsMost_22 rfl hl (by decide) rfl (fun ls hl => ?_)
    have L23 : ∀ (n : Nat) (bs : Int32) (lst : Int32) (k : Nat) (lov : Nat → Int32) (chv : Nat → Int32) (alv : Nat → Int32), (k ≤ 400) → 400 - k < n → sX0_dayThatTellsMost_L23 ag an sh wa pl rm lk n bs lst k lov chv alv = ex → ∀ (ls : Array Slot) (H : Heap) (locs : List Loc), lv_has ls 5 [(3, .int (nI k)), (2, .int lst), (1, .int bs), (0, .ref (ad 1))] → va_P (dC, dI) vwCl (wKx cI cQ ad ag lov chv alv an sh wa pl rm lk br row dn dy lv od sn ++ dpl L pd) H → va_D A (wKx cI cQ ad ag lov chv alv an sh wa pl rm lk br row dn dy lv od sn ++ dpl L pd) → va_S A s.heap H locs → W p l e rX0_dayThatTellsMost s m args below meth c H locs 0 0 Q (F0 m 23 ls []) := by
      intro n
      induction n with
      | zero => intro bs lst k lov chv alv hk hm; exact absurd hm (Nat.not_lt_zero _)
      | succ n ih =>
        intro bs lst k lov chv alv hk hm hex ls H locs hl hP hD hS
        rw [sX0_dayThatTellsMost_L23] at hex
        refine lv_iload_n hx hb dX0_dayThatTellsMost_23 rfl (lv_at hl 0 rfl) ?_
        refine lv_sipush (v := 400) hx hb dX0_dayThatTellsMost_24 (by decide) ?_
        refine lv_icmp_ge (tgt := 76) hx hb dX0_dayThatTellsMost_27 (by decide) (fun c_2 => ?_) (fun c_2 => ?_)
        · rw [if_pos c_2] at hex
          try have n_2 : 400 ≤ k := (nI_leI (a := 400) (b := k) (by omega) (by omega)).mp c_2
          refine lv_iload_n hx hb dX0_dayThatTellsMost_76 rfl (lv_at hl 2 rfl) ?_
          subst hex
          exact hret _ _ _ _ dX0_dayThatTellsMost_77 hP hD hS
        · rw [if_neg c_2] at hex
          try have n_2 : ¬ 400 ≤ k := fun h9 => c_2 ((nI_leI (a := 400) (b := k) (by omega) (by omega)).mpr h9)
          refine lv_aload_n hx hb dX0_dayThatTellsMost_30 rfl (lv_at hl 3 rfl) ?_
          have hDc : va_D A (wKx cI cQ ad ag lov chv alv an sh wa pl rm lk br row dn dy lv od sn ++ dpl L pd) := hD
          have hFc := cd_F hDc hS hA
          refine cd_wV (As := []) (b := (ad 1)) (ci := 0) (q := (RX0, TX0, 8)) (rest := []) ⟨hx, hb, hml, hown, hts⟩ (kX0_greatestAtOneLevel l dC dI cI cQ cZ ad ag lov chv alv an sh wa pl rm lk br row dn dy lv od sn L pd H.size han) (cwV 0 hts gX0_dayThatTellsMost_X0_greatestAtOneLevel rfl rfl rfl (by decide +kernel) ⟨by decide, by decide⟩) hK hP hDc hFc hS rfl rfl rfl hl.1 rfl (Nat.le_of_ble_eq_true rfl) dX0_dayThatTellsMost_31 ⟨by decide, by decide⟩ (fun H1 locs hP1 hD1 hk1 hS => ?_)
          have hP := hP1
          have hD := cd_DA hD1 hFc
          generalize H1 = H at hP hS ⊢
          have hP : va_P (dC, dI) vwCl (wKx cI cQ ad ag lov chv ((sX0_greatestAtOneLevel chv alv an rm).2) an sh wa pl rm lk br row dn dy lv od sn ++ dpl L pd) H := hP
          have hD : va_D A (wKx cI cQ ad ag lov chv ((sX0_greatestAtOneLevel chv alv an rm).2) an sh wa pl rm lk br row dn dy lv od sn ++ dpl L pd) := hD
          refine lv_istore (lv' := [(4, .int ((sX0_greatestAtOneLevel chv alv an rm).1)), (3, .int (nI k)), (2, .int lst), (1, .int bs), (0, .ref (ad 1))]) hx hb dX0_dayThatTellsMost_34 hl (by decide) rfl (fun ls hl => ?_)
          refine lv_iload hx hb dX0_dayThatTellsMost_36 (lv_at hl 0 rfl) ?_
          refine lv_iload_n hx hb dX0_dayThatTellsMost_38 rfl (lv_at hl 2 rfl) ?_
          refine lv_icmp_ge (tgt := 47) hx hb dX0_dayThatTellsMost_39 (by decide) (fun c_3 => ?_) (fun c_3 => ?_)
          · rw [if_pos c_3] at hex
            refine lv_aload_n hx hb dX0_dayThatTellsMost_47 rfl (lv_at hl 4 rfl) ?_
            refine va_get (D := (dC, dI)) (ci := 0) (v := .ref (ad 5)) (C := RX0) (T := TX0) (N := 8) hx hb hts hiX0 hown hK.1 hP 0 rfl rfl 6 (by decide) (hts (.fieldLink RX0 23 "CellDays$Cases" "atLevel" "[I") (by decide +kernel)) (fun _ h9 => h9) rfl dX0_dayThatTellsMost_48 ?_
            refine lv_iconst (v := 0) hx hb dX0_dayThatTellsMost_51 (by decide) ?_
            refine cd_rSN (As := [.ref (ad 5), .int 0]) (rest := []) ⟨hx, hb, hml, hown, hts⟩ (kX5_at l dC dI cI cQ cZ (ad 5) 10 ((sX0_greatestAtOneLevel chv alv an rm).2) 0 (by decide)) ⟨va_cnB 2 hts gX0_dayThatTellsMost_X5_at_n104 rfl rfl rfl (hK.2.1 (.methodLinkNest RX0 104 yX5_at RX5) (by decide +kernel)) (hts (.initialized RX5) (by decide +kernel)) (by decide +kernel) ⟨by decide, by decide⟩, hts (.static yX5_at) (by decide +kernel), trivial⟩ hK (hP.sub (ws' := (wAr cI (ad 5) 10 ((sX0_greatestAtOneLevel chv alv an rm).2))) [4] rfl) rfl hl.1 rfl (Nat.le_of_ble_eq_true rfl) dX0_dayThatTellsMost_52 ⟨by decide, by decide⟩ ?_
            refine lv_aload_n hx hb dX0_dayThatTellsMost_55 rfl (lv_at hl 4 rfl) ?_
            refine va_get (D := (dC, dI)) (ci := 0) (v := .int (nI an)) (C := RX0) (T := TX0) (N := 8) hx hb hts hiX0 hown hK.1 hP 0 rfl rfl 7 (by decide) (hts (.fieldLink RX0 26 "CellDays$Cases" "agreed" "I") (by decide +kernel)) (fun _ h9 => h9) rfl dX0_dayThatTellsMost_56 ?_
            refine lv_icmp_ne (tgt := 65) hx hb dX0_dayThatTellsMost_59 (by decide) (fun c_4 => ?_) (fun c_4 => ?_)
            · rw [if_neg c_4] at hex
              refine lv_aload_n hx hb dX0_dayThatTellsMost_65 rfl (lv_at hl 4 rfl) ?_
              refine lv_iload_n hx hb dX0_dayThatTellsMost_66 rfl (lv_at hl 1 rfl) ?_
              have hDc : va_D A (wKx cI cQ ad ag lov chv ((sX0_greatestAtOneLevel chv alv an rm).2) an sh wa pl rm lk br row dn dy lv od sn ++ dpl L pd) := hD
              have hFc := cd_F hDc hS hA
              refine cd_wVv (As := [.int (nI k)]) (b := (ad 1)) (ci := 0) (q := (RX0, TX0, 8)) (rest := []) ⟨hx, hb, hml, hown, hts⟩ (kX0_passDay l dC dI cI cQ cZ ad ag lov chv ((sX0_greatestAtOneLevel chv alv an rm).2) an sh wa pl rm lk br row dn dy lv od sn L pd (nI k) H.size han) (cwV 1 hts gX0_dayThatTellsMost_X0_passDay rfl rfl rfl (by decide +kernel) ⟨by decide, by decide⟩) hK hP hDc hFc hS rfl rfl rfl hl.1 rfl (Nat.le_of_ble_eq_true rfl) dX0_dayThatTellsMost_67 ⟨by decide, by decide⟩ (fun H1 locs hP1 hD1 hk1 hS => ?_)
              have hP := hP1
              have hD := cd_DA hD1 hFc
              generalize H1 = H at hP hS ⊢
              have hP : va_P (dC, dI) vwCl (wKx cI cQ ad ag lov (sX0_passDay ag lov chv an sh wa pl lk (nI k)) ((sX0_greatestAtOneLevel chv alv an rm).2) an sh wa pl rm lk br row dn dy lv od sn ++ dpl L pd) H := hP
              have hD : va_D A (wKx cI cQ ad ag lov (sX0_passDay ag lov chv an sh wa pl lk (nI k)) ((sX0_greatestAtOneLevel chv alv an rm).2) an sh wa pl rm lk br row dn dy lv od sn ++ dpl L pd) := hD
              refine lv_iinc (v := nI (k + 1)) (lv' := [(3, .int (nI (k + 1))), (4, .int ((sX0_greatestAtOneLevel chv alv an rm).1)), (2, .int lst), (1, .int bs), (0, .ref (ad 1))]) hx hb dX0_dayThatTellsMost_70 hl (k := 1) rfl (nI_1 k) (by decide) rfl (fun ls hl => ?_)
              refine lv_goto (tgt := 23) hx hb dX0_dayThatTellsMost_73 (by decide) ?_
              exact ih bs lst (k + 1) lov (sX0_passDay ag lov chv an sh wa pl lk (nI k)) ((sX0_greatestAtOneLevel chv alv an rm).2) (by omega) (by omega) hex _ _ _ (lv_sub hl [0, 2, 3, 4] rfl) hP hD hS
            · rw [if_pos c_4] at hex
              refine lv_goto (tgt := 76) hx hb dX0_dayThatTellsMost_62 (by decide) ?_
              refine lv_iload_n hx hb dX0_dayThatTellsMost_76 rfl (lv_at hl 3 rfl) ?_
              subst hex
              exact hret _ _ _ _ dX0_dayThatTellsMost_77 hP hD hS
          · rw [if_neg c_3] at hex
            refine lv_iload hx hb dX0_dayThatTellsMost_42 (lv_at hl 0 rfl) ?_
            refine lv_istore_n (lv' := [(2, .int ((sX0_greatestAtOneLevel chv alv an rm).1)), (4, .int ((sX0_greatestAtOneLevel chv alv an rm).1)), (3, .int (nI k)), (1, .int bs), (0, .ref (ad 1))]) hx hb dX0_dayThatTellsMost_44 rfl hl (by decide) rfl (fun ls hl => ?_)
            refine lv_iload_n hx hb dX0_dayThatTellsMost_45 rfl (lv_at hl 2 rfl) ?_
            refine lv_istore_n (lv' := [(1, .int (nI k)), (2, .int ((sX0_greatestAtOneLevel chv alv an rm).1)), (4, .int ((sX0_greatestAtOneLevel chv alv an rm).1)), (3, .int (nI k)), (0, .ref (ad 1))]) hx hb dX0_dayThatTellsMost_46 rfl hl (by decide) rfl (fun ls hl => ?_)
            refine lv_aload_n hx hb dX0_dayThatTellsMost_47 rfl (lv_at hl 4 rfl) ?_
            refine va_get (D := (dC, dI)) (ci := 0) (v := .ref (ad 5)) (C := RX0) (T := TX0) (N := 8) hx hb hts hiX0 hown hK.1 hP 0 rfl rfl 6 (by decide) (hts (.fieldLink RX0 23 "CellDays$Cases" "atLevel" "[I") (by decide +kernel)) (fun _ h9 => h9) rfl dX0_dayThatTellsMost_48 ?_
            refine lv_iconst (v := 0) hx hb dX0_dayThatTellsMost_51 (by decide) ?_
            refine cd_rSN (As := [.ref (ad 5), .int 0]) (rest := []) ⟨hx, hb, hml, hown, hts⟩ (kX5_at l dC dI cI cQ cZ (ad 5) 10 ((sX0_greatestAtOneLevel chv alv an rm).2) 0 (by decide)) ⟨va_cnB 2 hts gX0_dayThatTellsMost_X5_at_n104 rfl rfl rfl (hK.2.1 (.methodLinkNest RX0 104 yX5_at RX5) (by decide +kernel)) (hts (.initialized RX5) (by decide +kernel)) (by decide +kernel) ⟨by decide, by decide⟩, hts (.static yX5_at) (by decide +kernel), trivial⟩ hK (hP.sub (ws' := (wAr cI (ad 5) 10 ((sX0_greatestAtOneLevel chv alv an rm).2))) [4] rfl) rfl hl.1 rfl (Nat.le_of_ble_eq_true rfl) dX0_dayThatTellsMost_52 ⟨by decide, by decide⟩ ?_
            refine lv_aload_n hx hb dX0_dayThatTellsMost_55 rfl (lv_at hl 4 rfl) ?_
            refine va_get (D := (dC, dI)) (ci := 0) (v := .int (nI an)) (C := RX0) (T := TX0) (N := 8) hx hb hts hiX0 hown hK.1 hP 0 rfl rfl 7 (by decide) (hts (.fieldLink RX0 26 "CellDays$Cases" "agreed" "I") (by decide +kernel)) (fun _ h9 => h9) rfl dX0_dayThatTellsMost_56 ?_
            refine lv_icmp_ne (tgt := 65) hx hb dX0_dayThatTellsMost_59 (by decide) (fun c_5 => ?_) (fun c_5 => ?_)
            · rw [if_neg c_5] at hex
              refine lv_aload_n hx hb dX0_dayThatTellsMost_65 rfl (lv_at hl 4 rfl) ?_
              refine lv_iload_n hx hb dX0_dayThatTellsMost_66 rfl (lv_at hl 3 rfl) ?_
              have hDc : va_D A (wKx cI cQ ad ag lov chv ((sX0_greatestAtOneLevel chv alv an rm).2) an sh wa pl rm lk br row dn dy lv od sn ++ dpl L pd) := hD
              have hFc := cd_F hDc hS hA
              refine cd_wVv (As := [.int (nI k)]) (b := (ad 1)) (ci := 0) (q := (RX0, TX0, 8)) (rest := []) ⟨hx, hb, hml, hown, hts⟩ (kX0_passDay l dC dI cI cQ cZ ad ag lov chv ((sX0_greatestAtOneLevel chv alv an rm).2) an sh wa pl rm lk br row dn dy lv od sn L pd (nI k) H.size han) (cwV 1 hts gX0_dayThatTellsMost_X0_passDay rfl rfl rfl (by decide +kernel) ⟨by decide, by decide⟩) hK hP hDc hFc hS rfl rfl rfl hl.1 rfl (Nat.le_of_ble_eq_true rfl) dX0_dayThatTellsMost_67 ⟨by decide, by decide⟩ (fun H1 locs hP1 hD1 hk1 hS => ?_)
              have hP := hP1
              have hD := cd_DA hD1 hFc
              generalize H1 = H at hP hS ⊢
              have hP : va_P (dC, dI) vwCl (wKx cI cQ ad ag lov (sX0_passDay ag lov chv an sh wa pl lk (nI k)) ((sX0_greatestAtOneLevel chv alv an rm).2) an sh wa pl rm lk br row dn dy lv od sn ++ dpl L pd) H := hP
              have hD : va_D A (wKx cI cQ ad ag lov (sX0_passDay ag lov chv an sh wa pl lk (nI k)) ((sX0_greatestAtOneLevel chv alv an rm).2) an sh wa pl rm lk br row dn dy lv od sn ++ dpl L pd) := hD
              refine lv_iinc (v := nI (k + 1)) (lv' := [(3, .int (nI (k + 1))), (1, .int (nI k)), (2, .int ((sX0_greatestAtOneLevel chv alv an rm).1)), (4, .int ((sX0_greatestAtOneLevel chv alv an rm).1)), (0, .ref (ad 1))]) hx hb dX0_dayThatTellsMost_70 hl (k := 3) rfl (nI_1 k) (by decide) rfl (fun ls hl => ?_)
              refine lv_goto (tgt := 23) hx hb dX0_dayThatTellsMost_73 (by decide) ?_
              exact ih (nI k) ((sX0_greatestAtOneLevel chv alv an rm).1) (k + 1) lov (sX0_passDay ag lov chv an sh wa pl lk (nI k)) ((sX0_greatestAtOneLevel chv alv an rm).2) (by omega) (by omega) hex _ _ _ (lv_sub hl [0, 2, 1, 4] rfl) hP hD hS
            · rw [if_pos c_5] at hex
              refine lv_goto (tgt := 76) hx hb dX0_dayThatTellsMost_62 (by decide) ?_
              refine lv_iload_n hx hb dX0_dayThatTellsMost_76 rfl (lv_at hl 0 rfl) ?_
              subst hex
              exact hret _ _ _ _ dX0_dayThatTellsMost_77 hP hD hS
    exact L23 401 0 151 0 ((sX0_startAgreeing ag lo ch an rm br row dn pd).1) ((sX0_startAgreeing ag lo ch an rm br row dn pd).2) al (by decide) (by decide) hex _ _ _ (lv_sub hl [0, 1, 2, 3] rfl) hP hD hS
  · rw [if_neg c_1] at hex
    try have n_1 : ¬ 2 ≤ an := fun h9 => c_1 ((nI_leI (a := 2) (b := an) (by omega) (by omega)).mpr h9)
    refine lv_bipush (v := (-9)) hx hb dX0_dayThatTellsMost_8 (by decide) ?_
    subst hex
    exact hret _ _ _ _ dX0_dayThatTellsMost_10 hP hD hS
end
