theorem goodIn_r {big : List Cond} (ws : List Cond) (ps : List Nat) (hp : ws = ps.filterMap (fun i => big[i]?)) (h : ws.all goodWord = true) : GoodIn big ws := by
  intro w hw
  have h1 := List.all_eq_true.mp h w hw
  rw [hp] at hw
  obtain ⟨i, -, hi⟩ := List.mem_filterMap.mp hw
  have hm : w ∈ big := by first | exact List.mem_of_getElem? hi | exact List.getElem?_mem hi
  exact ⟨hm, good_of_word h1⟩
theorem goodIn_app {big a b : List Cond} (ha : GoodIn big a) (hb : GoodIn big b) : GoodIn big (a ++ b) := fun w h => (List.mem_append.mp h).elim (ha w) (hb w)
theorem goodIn_ca {big a b : List Cond} {c : Cond} (ha : GoodIn big (c :: a)) (hb : GoodIn big b) : GoodIn big (c :: (a ++ b)) := fun w h => (List.mem_cons.mp h).elim (fun e => ha w (List.mem_cons.mpr (Or.inl e))) (fun h => (List.mem_append.mp h).elim (fun h => ha w (List.mem_cons.mpr (Or.inr h))) (hb w))
theorem goodIn_sub {big ws : List Cond} (hm : ∀ w ∈ ws, w ∈ big) (h : ws.all goodWord = true) : GoodIn big ws := fun w hw => ⟨hm w hw, good_of_word (List.all_eq_true.mp h w hw)⟩

def RX0 : String := "FatherLists$Houses"
def TX0 : u_T := fun k => match k with
  | 0 => ("FatherLists$Houses", "strengths", "[I", true)
  | _ => ("FatherLists$Houses", "claims", "[I", true)
def tyX0 : Nat → FieldType := fun k => match k with
  | 0 => .array .int
  | _ => .array .int
abbrev wsX00 : List Cond := u_ws RX0 TX0 2
theorem nmX0 : ∀ a, a < 2 → ∀ b, b < 2 → a ≠ b → (TX0 a).2.1 ≠ (TX0 b).2.1 := by decide +kernel
theorem tyX0_ok : ∀ k, k < 2 → parseFieldDescriptor (TX0 k).2.2.1 = some (tyX0 k) := by decide +kernel
abbrev cX0_init : ByteArray := prog_2_method_1_code
def yX0_init : MethodName := ⟨RX0, "<init>", "()V"⟩
abbrev cX0_become : ByteArray := prog_2_method_2_code
def yX0_become : MethodName := ⟨RX0, "become", "(LFatherLists$Houses;)V"⟩
abbrev cX0_heldOf : ByteArray := prog_2_method_3_code
def yX0_heldOf : MethodName := ⟨RX0, "heldOf", "(I)I"⟩
abbrev cX0_countBy : ByteArray := prog_2_method_4_code
def yX0_countBy : MethodName := ⟨RX0, "countBy", "(I)I"⟩
abbrev cX0_hasWeakAlone : ByteArray := prog_2_method_5_code
def yX0_hasWeakAlone : MethodName := ⟨RX0, "hasWeakAlone", "(II)Z"⟩
def RX1 : String := "FatherLists$Law"
def TX1 : u_T := fun k => match k with
  | 0 => ("FatherLists$Law", "numbers", "[I", true)
  | _ => ("FatherLists$Law", "draft", "[I", true)
def tyX1 : Nat → FieldType := fun k => match k with
  | 0 => .array .int
  | _ => .array .int
abbrev wsX10 : List Cond := u_ws RX1 TX1 2
theorem nmX1 : ∀ a, a < 2 → ∀ b, b < 2 → a ≠ b → (TX1 a).2.1 ≠ (TX1 b).2.1 := by decide +kernel
theorem tyX1_ok : ∀ k, k < 2 → parseFieldDescriptor (TX1 k).2.2.1 = some (tyX1 k) := by decide +kernel
abbrev cX1_init : ByteArray := prog_3_method_1_code
def yX1_init : MethodName := ⟨RX1, "<init>", "()V"⟩
abbrev cX1_read : ByteArray := prog_3_method_2_code
def yX1_read : MethodName := ⟨RX1, "read", "(LFatherLists$Text;)I"⟩
abbrev cX1_itemAt : ByteArray := prog_3_method_3_code
def yX1_itemAt : MethodName := ⟨RX1, "itemAt", "(LFatherLists$Text;I)I"⟩
abbrev cX1_wordOf : ByteArray := prog_3_method_4_code
def yX1_wordOf : MethodName := ⟨RX1, "wordOf", "(I)Ljava/lang/String;"⟩
def RX2 : String := "FatherLists$Records"
def TX2 : u_T := fun k => match k with
  | 0 => ("FatherLists$Records", "lists", "[LFatherLists$Row;", true)
  | 1 => ("FatherLists$Records", "houses", "LFatherLists$Houses;", true)
  | 2 => ("FatherLists$Records", "dates", "[I", true)
  | _ => ("FatherLists$Records", "isKept", "Z", false)
def tyX2 : Nat → FieldType := fun k => match k with
  | 0 => .array (.object "FatherLists$Row")
  | 1 => .object "FatherLists$Houses"
  | 2 => .array .int
  | _ => .boolean
abbrev wsX20 : List Cond := u_ws RX2 TX2 4
theorem nmX2 : ∀ a, a < 4 → ∀ b, b < 4 → a ≠ b → (TX2 a).2.1 ≠ (TX2 b).2.1 := by decide +kernel
theorem tyX2_ok : ∀ k, k < 4 → parseFieldDescriptor (TX2 k).2.2.1 = some (tyX2 k) := by decide +kernel
abbrev cX2_init : ByteArray := prog_4_method_1_code
def yX2_init : MethodName := ⟨RX2, "<init>", "()V"⟩
abbrev cX2_become : ByteArray := prog_4_method_2_code
def yX2_become : MethodName := ⟨RX2, "become", "(LFatherLists$Records;)V"⟩
abbrev cX2_countNames : ByteArray := prog_4_method_3_code
def yX2_countNames : MethodName := ⟨RX2, "countNames", "()I"⟩
def RX3 : String := "FatherLists$Row"
def TX3 : u_T := fun k => match k with
  | 0 => ("FatherLists$Row", "names", "[I", true)
  | _ => ("FatherLists$Row", "size", "I", false)
def tyX3 : Nat → FieldType := fun k => match k with
  | 0 => .array .int
  | _ => .int
abbrev wsX30 : List Cond := u_ws RX3 TX3 2
theorem nmX3 : ∀ a, a < 2 → ∀ b, b < 2 → a ≠ b → (TX3 a).2.1 ≠ (TX3 b).2.1 := by decide +kernel
theorem tyX3_ok : ∀ k, k < 2 → parseFieldDescriptor (TX3 k).2.2.1 = some (tyX3 k) := by decide +kernel
abbrev cX3_init : ByteArray := prog_5_method_1_code
def yX3_init : MethodName := ⟨RX3, "<init>", "(I)V"⟩
abbrev cX3_has : ByteArray := prog_5_method_2_code
def yX3_has : MethodName := ⟨RX3, "has", "(I)Z"⟩
abbrev cX3_nameAt : ByteArray := prog_5_method_3_code
def yX3_nameAt : MethodName := ⟨RX3, "nameAt", "(I)I"⟩
abbrev cX3_placeOf : ByteArray := prog_5_method_4_code
def yX3_placeOf : MethodName := ⟨RX3, "placeOf", "(I)I"⟩
abbrev cX3_placeOrEnd : ByteArray := prog_5_method_5_code
def yX3_placeOrEnd : MethodName := ⟨RX3, "placeOrEnd", "(I)I"⟩
abbrev cX3_bits : ByteArray := prog_5_method_6_code
def yX3_bits : MethodName := ⟨RX3, "bits", "()I"⟩
abbrev cX3_read : ByteArray := prog_5_method_7_code
def yX3_read : MethodName := ⟨RX3, "read", "(LFatherLists$Text;)V"⟩
abbrev cX3_become : ByteArray := prog_5_method_8_code
def yX3_become : MethodName := ⟨RX3, "become", "(LFatherLists$Row;)V"⟩
abbrev cX3_insert : ByteArray := prog_5_method_9_code
def yX3_insert : MethodName := ⟨RX3, "insert", "(II)V"⟩
abbrev cX3_remove : ByteArray := prog_5_method_10_code
def yX3_remove : MethodName := ⟨RX3, "remove", "(I)V"⟩
abbrev cX3_swapWithAhead : ByteArray := prog_5_method_11_code
def yX3_swapWithAhead : MethodName := ⟨RX3, "swapWithAhead", "(I)V"⟩
def RX4 : String := "FatherLists$Saying"
def TX4 : u_T := fun k => match k with
  | 0 => ("FatherLists$Saying", "row", "LFatherLists$Row;", true)
  | 1 => ("FatherLists$Saying", "houses", "LFatherLists$Houses;", true)
  | 2 => ("FatherLists$Saying", "taken", "I", false)
  | 3 => ("FatherLists$Saying", "moved", "I", false)
  | _ => ("FatherLists$Saying", "dropped", "I", false)
def tyX4 : Nat → FieldType := fun k => match k with
  | 0 => .object "FatherLists$Row"
  | 1 => .object "FatherLists$Houses"
  | 2 => .int
  | 3 => .int
  | _ => .int
abbrev wsX40 : List Cond := u_ws RX4 TX4 5
theorem nmX4 : ∀ a, a < 5 → ∀ b, b < 5 → a ≠ b → (TX4 a).2.1 ≠ (TX4 b).2.1 := by decide +kernel
theorem tyX4_ok : ∀ k, k < 5 → parseFieldDescriptor (TX4 k).2.2.1 = some (tyX4 k) := by decide +kernel
abbrev cX4_init : ByteArray := prog_6_method_1_code
def yX4_init : MethodName := ⟨RX4, "<init>", "()V"⟩
abbrev cX4_begin : ByteArray := prog_6_method_2_code
def yX4_begin : MethodName := ⟨RX4, "begin", "(LFatherLists$Row;LFatherLists$Houses;)V"⟩
abbrev cX4_speak : ByteArray := prog_6_method_3_code
def yX4_speak : MethodName := ⟨RX4, "speak", "(LFatherLists$Law;I)V"⟩
abbrev cX4_changed : ByteArray := prog_6_method_4_code
def yX4_changed : MethodName := ⟨RX4, "changed", "(I)I"⟩
abbrev cX4_takeStrong : ByteArray := prog_6_method_5_code
def yX4_takeStrong : MethodName := ⟨RX4, "takeStrong", "(III)V"⟩
abbrev cX4_moveStrong : ByteArray := prog_6_method_6_code
def yX4_moveStrong : MethodName := ⟨RX4, "moveStrong", "(II)V"⟩
abbrev cX4_dropWeak : ByteArray := prog_6_method_7_code
def yX4_dropWeak : MethodName := ⟨RX4, "dropWeak", "(II)V"⟩
abbrev cX4_dropBeyond : ByteArray := prog_6_method_8_code
def yX4_dropBeyond : MethodName := ⟨RX4, "dropBeyond", "(II)V"⟩
abbrev cX4_leastHeld : ByteArray := prog_6_method_9_code
def yX4_leastHeld : MethodName := ⟨RX4, "leastHeld", "(I)I"⟩
abbrev cX4_drop : ByteArray := prog_6_method_10_code
def yX4_drop : MethodName := ⟨RX4, "drop", "(I)V"⟩
def RX5 : String := "FatherLists$SideBySide"
def TX5 : u_T := fun k => match k with
  | 0 => ("FatherLists$SideBySide", "before", "[I", true)
  | 1 => ("FatherLists$SideBySide", "needed", "[I", true)
  | 2 => ("FatherLists$SideBySide", "ways", "[J", true)
  | _ => ("FatherLists$SideBySide", "all", "I", false)
def tyX5 : Nat → FieldType := fun k => match k with
  | 0 => .array .int
  | 1 => .array .int
  | 2 => .array .long
  | _ => .int
abbrev wsX50 : List Cond := u_ws RX5 TX5 4
theorem nmX5 : ∀ a, a < 4 → ∀ b, b < 4 → a ≠ b → (TX5 a).2.1 ≠ (TX5 b).2.1 := by decide +kernel
theorem tyX5_ok : ∀ k, k < 4 → parseFieldDescriptor (TX5 k).2.2.1 = some (tyX5 k) := by decide +kernel
abbrev cX5_init : ByteArray := prog_7_method_1_code
def yX5_init : MethodName := ⟨RX5, "<init>", "()V"⟩
abbrev cX5_look : ByteArray := prog_7_method_2_code
def yX5_look : MethodName := ⟨RX5, "look", "(LFatherLists$Records;I)V"⟩
abbrev cX5_lookAt : ByteArray := prog_7_method_3_code
def yX5_lookAt : MethodName := ⟨RX5, "lookAt", "(LFatherLists$Row;)V"⟩
abbrev cX5_areTooMany : ByteArray := prog_7_method_4_code
def yX5_areTooMany : MethodName := ⟨RX5, "areTooMany", "()Z"⟩
abbrev cX5_haveOrder : ByteArray := prog_7_method_5_code
def yX5_haveOrder : MethodName := ⟨RX5, "haveOrder", "()Z"⟩
abbrev cX5_withAllThatCanBeNext : ByteArray := prog_7_method_6_code
def yX5_withAllThatCanBeNext : MethodName := ⟨RX5, "withAllThatCanBeNext", "(I)I"⟩
abbrev cX5_allAheadOf : ByteArray := prog_7_method_7_code
def yX5_allAheadOf : MethodName := ⟨RX5, "allAheadOf", "(I)I"⟩
abbrev cX5_withAllAhead : ByteArray := prog_7_method_8_code
def yX5_withAllAhead : MethodName := ⟨RX5, "withAllAhead", "(I)I"⟩
abbrev cX5_fewestWithoutOrder : ByteArray := prog_7_method_9_code
def yX5_fewestWithoutOrder : MethodName := ⟨RX5, "fewestWithoutOrder", "(LFatherLists$Records;I)I"⟩
abbrev cX5_countOrders : ByteArray := prog_7_method_10_code
def yX5_countOrders : MethodName := ⟨RX5, "countOrders", "()J"⟩
abbrev cX5_goOnFrom : ByteArray := prog_7_method_11_code
def yX5_goOnFrom : MethodName := ⟨RX5, "goOnFrom", "(II)V"⟩
abbrev cX5_fillNeeded : ByteArray := prog_7_method_12_code
def yX5_fillNeeded : MethodName := ⟨RX5, "fillNeeded", "()I"⟩
abbrev cX5_withoutGaps : ByteArray := prog_7_method_13_code
def yX5_withoutGaps : MethodName := ⟨RX5, "withoutGaps", "(I)I"⟩
def RX6 : String := "FatherLists$Text"
def TX6 : u_T := fun k => match k with
  | 0 => ("FatherLists$Text", "bytes", "[I", true)
  | _ => ("FatherLists$Text", "size", "I", false)
def tyX6 : Nat → FieldType := fun k => match k with
  | 0 => .array .int
  | _ => .int
abbrev wsX60 : List Cond := u_ws RX6 TX6 2
theorem nmX6 : ∀ a, a < 2 → ∀ b, b < 2 → a ≠ b → (TX6 a).2.1 ≠ (TX6 b).2.1 := by decide +kernel
theorem tyX6_ok : ∀ k, k < 2 → parseFieldDescriptor (TX6 k).2.2.1 = some (tyX6 k) := by decide +kernel
abbrev cX6_init : ByteArray := prog_8_method_1_code
def yX6_init : MethodName := ⟨RX6, "<init>", "()V"⟩
abbrev cX6_add : ByteArray := prog_8_method_2_code
def yX6_add : MethodName := ⟨RX6, "add", "(I)V"⟩
abbrev cX6_empty : ByteArray := prog_8_method_3_code
def yX6_empty : MethodName := ⟨RX6, "empty", "()I"⟩
abbrev cX6_byteAt : ByteArray := prog_8_method_4_code
def yX6_byteAt : MethodName := ⟨RX6, "byteAt", "(I)I"⟩
abbrev cX6_afterBlanks : ByteArray := prog_8_method_5_code
def yX6_afterBlanks : MethodName := ⟨RX6, "afterBlanks", "(I)I"⟩
abbrev cX6_afterLetters : ByteArray := prog_8_method_6_code
def yX6_afterLetters : MethodName := ⟨RX6, "afterLetters", "(I)I"⟩
abbrev cX6_afterDigits : ByteArray := prog_8_method_7_code
def yX6_afterDigits : MethodName := ⟨RX6, "afterDigits", "(I)I"⟩
abbrev cX6_numberAt : ByteArray := prog_8_method_8_code
def yX6_numberAt : MethodName := ⟨RX6, "numberAt", "(I)I"⟩
abbrev cX6_isWordAt : ByteArray := prog_8_method_9_code
def yX6_isWordAt : MethodName := ⟨RX6, "isWordAt", "(ILjava/lang/String;)Z"⟩
abbrev cX6_faultAsList : ByteArray := prog_8_method_10_code
def yX6_faultAsList : MethodName := ⟨RX6, "faultAsList", "()I"⟩
def RX7 : String := "FatherLists"
def TX7 : u_T := fun k => match k with
  | 0 => ("FatherLists", "text", "LFatherLists$Text;", true)
  | 1 => ("FatherLists", "ruling", "LFatherLists$Law;", true)
  | 2 => ("FatherLists", "now", "LFatherLists$Records;", true)
  | 3 => ("FatherLists", "firstImage", "LFatherLists$Records;", true)
  | 4 => ("FatherLists", "secondImage", "LFatherLists$Records;", true)
  | 5 => ("FatherLists", "latest", "LFatherLists$Saying;", true)
  | 6 => ("FatherLists", "supposed", "LFatherLists$Saying;", true)
  | 7 => ("FatherLists", "sides", "LFatherLists$SideBySide;", true)
  | 8 => ("FatherLists", "longestTo", "[I", true)
  | 9 => ("FatherLists", "low", "I", false)
  | 10 => ("FatherLists", "high", "I", false)
  | _ => ("FatherLists", "asked", "J", false)
def tyX7 : Nat → FieldType := fun k => match k with
  | 0 => .object "FatherLists$Text"
  | 1 => .object "FatherLists$Law"
  | 2 => .object "FatherLists$Records"
  | 3 => .object "FatherLists$Records"
  | 4 => .object "FatherLists$Records"
  | 5 => .object "FatherLists$Saying"
  | 6 => .object "FatherLists$Saying"
  | 7 => .object "FatherLists$SideBySide"
  | 8 => .array .int
  | 9 => .int
  | 10 => .int
  | _ => .long
abbrev wsX70 : List Cond := u_ws RX7 TX7 12
theorem nmX7 : ∀ a, a < 12 → ∀ b, b < 12 → a ≠ b → (TX7 a).2.1 ≠ (TX7 b).2.1 := by decide +kernel
theorem tyX7_ok : ∀ k, k < 12 → parseFieldDescriptor (TX7 k).2.2.1 = some (tyX7 k) := by decide +kernel
abbrev cX7_init : ByteArray := prog_1_method_1_code
def yX7_init : MethodName := ⟨RX7, "<init>", "()V"⟩
abbrev cX7_type : ByteArray := prog_1_method_2_code
def yX7_type : MethodName := ⟨RX7, "type", "(JI)I"⟩
abbrev cX7_clear : ByteArray := prog_1_method_3_code
def yX7_clear : MethodName := ⟨RX7, "clear", "()I"⟩
abbrev cX7_law : ByteArray := prog_1_method_4_code
def yX7_law : MethodName := ⟨RX7, "law", "()I"⟩
abbrev cX7_list : ByteArray := prog_1_method_5_code
def yX7_list : MethodName := ⟨RX7, "list", "(I)I"⟩
abbrev cX7_told : ByteArray := prog_1_method_6_code
def yX7_told : MethodName := ⟨RX7, "told", "(I)I"⟩
abbrev cX7_name : ByteArray := prog_1_method_7_code
def yX7_name : MethodName := ⟨RX7, "name", "(II)I"⟩
abbrev cX7_place : ByteArray := prog_1_method_8_code
def yX7_place : MethodName := ⟨RX7, "place", "(II)I"⟩
abbrev cX7_house : ByteArray := prog_1_method_9_code
def yX7_house : MethodName := ⟨RX7, "house", "(III)I"⟩
abbrev cX7_held : ByteArray := prog_1_method_10_code
def yX7_held : MethodName := ⟨RX7, "held", "(I)I"⟩
abbrev cX7_say : ByteArray := prog_1_method_11_code
def yX7_say : MethodName := ⟨RX7, "say", "(II)I"⟩
abbrev cX7_said : ByteArray := prog_1_method_12_code
def yX7_said : MethodName := ⟨RX7, "said", "(I)I"⟩
abbrev cX7_foretold : ByteArray := prog_1_method_13_code
def yX7_foretold : MethodName := ⟨RX7, "foretold", "(IIII)I"⟩
abbrev cX7_both : ByteArray := prog_1_method_14_code
def yX7_both : MethodName := ⟨RX7, "both", "(III)I"⟩
abbrev cX7_orders : ByteArray := prog_1_method_15_code
def yX7_orders : MethodName := ⟨RX7, "orders", "(I)J"⟩
abbrev cX7_quarrel : ByteArray := prog_1_method_16_code
def yX7_quarrel : MethodName := ⟨RX7, "quarrel", "(II)I"⟩
abbrev cX7_ahead : ByteArray := prog_1_method_17_code
def yX7_ahead : MethodName := ⟨RX7, "ahead", "(III)I"⟩
abbrev cX7_date : ByteArray := prog_1_method_18_code
def yX7_date : MethodName := ⟨RX7, "date", "(II)I"⟩
abbrev cX7_link : ByteArray := prog_1_method_19_code
def yX7_link : MethodName := ⟨RX7, "link", "(II)I"⟩
abbrev cX7_span : ByteArray := prog_1_method_20_code
def yX7_span : MethodName := ⟨RX7, "span", "(III)I"⟩
abbrev cX7_lost : ByteArray := prog_1_method_21_code
def yX7_lost : MethodName := ⟨RX7, "lost", "(I)I"⟩
abbrev cX7_court : ByteArray := prog_1_method_22_code
def yX7_court : MethodName := ⟨RX7, "court", "(III)I"⟩
abbrev cX7_worth : ByteArray := prog_1_method_23_code
def yX7_worth : MethodName := ⟨RX7, "worth", "(II)I"⟩
abbrev cX7_keep : ByteArray := prog_1_method_24_code
def yX7_keep : MethodName := ⟨RX7, "keep", "(I)I"⟩
abbrev cX7_back : ByteArray := prog_1_method_25_code
def yX7_back : MethodName := ⟨RX7, "back", "(I)I"⟩
abbrev cX7_count : ByteArray := prog_1_method_26_code
def yX7_count : MethodName := ⟨RX7, "count", "(I)I"⟩
abbrev cX7_trace : ByteArray := prog_1_method_27_code
def yX7_trace : MethodName := ⟨RX7, "trace", "()J"⟩
abbrev cX7_isList : ByteArray := prog_1_method_28_code
def yX7_isList : MethodName := ⟨RX7, "isList", "(I)Z"⟩
abbrev cX7_isSet : ByteArray := prog_1_method_29_code
def yX7_isSet : MethodName := ⟨RX7, "isSet", "(I)Z"⟩
abbrev cX7_isName : ByteArray := prog_1_method_30_code
def yX7_isName : MethodName := ⟨RX7, "isName", "(I)Z"⟩
abbrev cX7_isNameOrNone : ByteArray := prog_1_method_31_code
def yX7_isNameOrNone : MethodName := ⟨RX7, "isNameOrNone", "(I)Z"⟩
abbrev cX7_isHouse : ByteArray := prog_1_method_32_code
def yX7_isHouse : MethodName := ⟨RX7, "isHouse", "(I)Z"⟩
abbrev cX7_isStrength : ByteArray := prog_1_method_33_code
def yX7_isStrength : MethodName := ⟨RX7, "isStrength", "(I)Z"⟩
abbrev cX7_isIn : ByteArray := prog_1_method_34_code
def yX7_isIn : MethodName := ⟨RX7, "isIn", "(II)Z"⟩
abbrev cX7_isLetter : ByteArray := prog_1_method_35_code
def yX7_isLetter : MethodName := ⟨RX7, "isLetter", "(I)Z"⟩
abbrev cX7_isDigit : ByteArray := prog_1_method_36_code
def yX7_isDigit : MethodName := ⟨RX7, "isDigit", "(I)Z"⟩
abbrev cX7_exchange : ByteArray := prog_1_method_37_code
def yX7_exchange : MethodName := ⟨RX7, "exchange", "([III)I"⟩
abbrev cX7_countThere : ByteArray := prog_1_method_38_code
def yX7_countThere : MethodName := ⟨RX7, "countThere", "([I)I"⟩
abbrev cX7_sameOrder : ByteArray := prog_1_method_39_code
def yX7_sameOrder : MethodName := ⟨RX7, "sameOrder", "(LFatherLists$Row;LFatherLists$Row;)I"⟩
abbrev cX7_longestAhead : ByteArray := prog_1_method_40_code
def yX7_longestAhead : MethodName := ⟨RX7, "longestAhead", "(LFatherLists$Row;LFatherLists$Row;II)I"⟩
abbrev cX7_dateAt : ByteArray := prog_1_method_41_code
def yX7_dateAt : MethodName := ⟨RX7, "dateAt", "(LFatherLists$Row;I)I"⟩
abbrev cX7_isAnyDated : ByteArray := prog_1_method_42_code
def yX7_isAnyDated : MethodName := ⟨RX7, "isAnyDated", "(LFatherLists$Row;)Z"⟩
abbrev cX7_doDatesFit : ByteArray := prog_1_method_43_code
def yX7_doDatesFit : MethodName := ⟨RX7, "doDatesFit", "(LFatherLists$Row;)Z"⟩
abbrev cX7_earliest : ByteArray := prog_1_method_44_code
def yX7_earliest : MethodName := ⟨RX7, "earliest", "(LFatherLists$Row;I)I"⟩
abbrev cX7_latestYear : ByteArray := prog_1_method_45_code
def yX7_latestYear : MethodName := ⟨RX7, "latestYear", "(LFatherLists$Row;I)I"⟩
abbrev cX7_lostBetween : ByteArray := prog_1_method_46_code
def yX7_lostBetween : MethodName := ⟨RX7, "lostBetween", "(II)I"⟩
abbrev cX7_worthAsName : ByteArray := prog_1_method_47_code
def yX7_worthAsName : MethodName := ⟨RX7, "worthAsName", "(I)I"⟩
abbrev cX7_worthAsClaimed : ByteArray := prog_1_method_48_code
def yX7_worthAsClaimed : MethodName := ⟨RX7, "worthAsClaimed", "(I)I"⟩
abbrev cX7_worthAsJoined : ByteArray := prog_1_method_49_code
def yX7_worthAsJoined : MethodName := ⟨RX7, "worthAsJoined", "(I)I"⟩
abbrev cX7_worthAsStood : ByteArray := prog_1_method_50_code
def yX7_worthAsStood : MethodName := ⟨RX7, "worthAsStood", "(I)I"⟩
abbrev cX7_worthAsDated : ByteArray := prog_1_method_51_code
def yX7_worthAsDated : MethodName := ⟨RX7, "worthAsDated", "(I)I"⟩
abbrev cX7_worthAsFar : ByteArray := prog_1_method_52_code
def yX7_worthAsFar : MethodName := ⟨RX7, "worthAsFar", "(I)I"⟩
def RX8 : String := "FatherListsModel"
def TX8 : u_T := fun k => match k with
  | 0 => ("FatherListsModel", "thrown", "I", false)
  | 1 => ("FatherListsModel", "trace", "J", false)
  | 2 => ("FatherListsModel", "s", "[I", true)
  | 3 => ("FatherListsModel", "kept", "[I", true)
  | 4 => ("FatherListsModel", "isKept", "[Z", true)
  | 5 => ("FatherListsModel", "laws", "[I", true)
  | 6 => ("FatherListsModel", "text", "[I", true)
  | 7 => ("FatherListsModel", "typed", "I", false)
  | 8 => ("FatherListsModel", "next", "I", false)
  | 9 => ("FatherListsModel", "token", "I", false)
  | 10 => ("FatherListsModel", "place", "I", false)
  | 11 => ("FatherListsModel", "value", "I", false)
  | 12 => ("FatherListsModel", "fault", "I", false)
  | 13 => ("FatherListsModel", "low", "I", false)
  | 14 => ("FatherListsModel", "high", "I", false)
  | 15 => ("FatherListsModel", "row", "[I", true)
  | 16 => ("FatherListsModel", "size", "I", false)
  | 17 => ("FatherListsModel", "changed", "[I", true)
  | 18 => ("FatherListsModel", "told", "[I", true)
  | 19 => ("FatherListsModel", "names", "[I", true)
  | 20 => ("FatherListsModel", "nameMany", "I", false)
  | 21 => ("FatherListsModel", "before", "[I", true)
  | 22 => ("FatherListsModel", "ways", "[J", true)
  | _ => ("FatherListsModel", "same", "[I", true)
def tyX8 : Nat → FieldType := fun k => match k with
  | 0 => .int
  | 1 => .long
  | 2 => .array .int
  | 3 => .array .int
  | 4 => .array .boolean
  | 5 => .array .int
  | 6 => .array .int
  | 7 => .int
  | 8 => .int
  | 9 => .int
  | 10 => .int
  | 11 => .int
  | 12 => .int
  | 13 => .int
  | 14 => .int
  | 15 => .array .int
  | 16 => .int
  | 17 => .array .int
  | 18 => .array .int
  | 19 => .array .int
  | 20 => .int
  | 21 => .array .int
  | 22 => .array .long
  | _ => .array .int
abbrev wsX80 : List Cond := u_ws RX8 TX8 24
theorem nmX8 : ∀ a, a < 24 → ∀ b, b < 24 → a ≠ b → (TX8 a).2.1 ≠ (TX8 b).2.1 := by decide +kernel
theorem tyX8_ok : ∀ k, k < 24 → parseFieldDescriptor (TX8 k).2.2.1 = some (tyX8 k) := by decide +kernel
abbrev cX8_init : ByteArray := prog_10_method_1_code
def yX8_init : MethodName := ⟨RX8, "<init>", "()V"⟩
abbrev cX8_in : ByteArray := prog_10_method_3_code
def yX8_in : MethodName := ⟨RX8, "in", "(III)Z"⟩
abbrev cX8_isList : ByteArray := prog_10_method_4_code
def yX8_isList : MethodName := ⟨RX8, "isList", "(I)Z"⟩
abbrev cX8_isName : ByteArray := prog_10_method_5_code
def yX8_isName : MethodName := ⟨RX8, "isName", "(I)Z"⟩
abbrev cX8_sizeOf : ByteArray := prog_10_method_6_code
def yX8_sizeOf : MethodName := ⟨RX8, "sizeOf", "(I)I"⟩
abbrev cX8_at : ByteArray := prog_10_method_7_code
def yX8_at : MethodName := ⟨RX8, "at", "(II)I"⟩
abbrev cX8_placeOf : ByteArray := prog_10_method_8_code
def yX8_placeOf : MethodName := ⟨RX8, "placeOf", "(II)I"⟩
abbrev cX8_type : ByteArray := prog_10_method_9_code
def yX8_type : MethodName := ⟨RX8, "type", "(JI)I"⟩
abbrev cX8_clear : ByteArray := prog_10_method_10_code
def yX8_clear : MethodName := ⟨RX8, "clear", "()I"⟩
abbrev cX8_byteAt : ByteArray := prog_10_method_11_code
def yX8_byteAt : MethodName := ⟨RX8, "byteAt", "(I)I"⟩
abbrev cX8_begins : ByteArray := prog_10_method_12_code
def yX8_begins : MethodName := ⟨RX8, "begins", "()V"⟩
abbrev cX8_lays : ByteArray := prog_10_method_13_code
def yX8_lays : MethodName := ⟨RX8, "lays", "()V"⟩
abbrev cX8_add : ByteArray := prog_10_method_14_code
def yX8_add : MethodName := ⟨RX8, "add", "(JI)J"⟩
abbrev cX8_word : ByteArray := prog_10_method_15_code
def yX8_word : MethodName := ⟨RX8, "word", "(IIIII)J"⟩
abbrev cX8_wordOf : ByteArray := prog_10_method_16_code
def yX8_wordOf : MethodName := ⟨RX8, "wordOf", "(J)I"⟩
abbrev cX8_advances : ByteArray := prog_10_method_17_code
def yX8_advances : MethodName := ⟨RX8, "advances", "()V"⟩
abbrev cX8_isWell : ByteArray := prog_10_method_18_code
def yX8_isWell : MethodName := ⟨RX8, "isWell", "()Z"⟩
abbrev cX8_takes : ByteArray := prog_10_method_19_code
def yX8_takes : MethodName := ⟨RX8, "takes", "(Z)I"⟩
abbrev cX8_law : ByteArray := prog_10_method_20_code
def yX8_law : MethodName := ⟨RX8, "law", "()I"⟩
abbrev cX8_list : ByteArray := prog_10_method_21_code
def yX8_list : MethodName := ⟨RX8, "list", "(I)I"⟩
abbrev cX8_told : ByteArray := prog_10_method_22_code
def yX8_told : MethodName := ⟨RX8, "told", "(I)I"⟩
abbrev cX8_name : ByteArray := prog_10_method_23_code
def yX8_name : MethodName := ⟨RX8, "name", "(II)I"⟩
abbrev cX8_place : ByteArray := prog_10_method_24_code
def yX8_place : MethodName := ⟨RX8, "place", "(II)I"⟩
abbrev cX8_house : ByteArray := prog_10_method_25_code
def yX8_house : MethodName := ⟨RX8, "house", "(III)I"⟩
abbrev cX8_heldOf : ByteArray := prog_10_method_26_code
def yX8_heldOf : MethodName := ⟨RX8, "heldOf", "(I)I"⟩
abbrev cX8_held : ByteArray := prog_10_method_27_code
def yX8_held : MethodName := ⟨RX8, "held", "(I)I"⟩
abbrev cX8_found : ByteArray := prog_10_method_28_code
def yX8_found : MethodName := ⟨RX8, "found", "(I)I"⟩
abbrev cX8_drops : ByteArray := prog_10_method_29_code
def yX8_drops : MethodName := ⟨RX8, "drops", "(I)V"⟩
abbrev cX8_isWeak : ByteArray := prog_10_method_30_code
def yX8_isWeak : MethodName := ⟨RX8, "isWeak", "(I)Z"⟩
abbrev cX8_says : ByteArray := prog_10_method_31_code
def yX8_says : MethodName := ⟨RX8, "says", "(II)V"⟩
abbrev cX8_say : ByteArray := prog_10_method_32_code
def yX8_say : MethodName := ⟨RX8, "say", "(II)I"⟩
abbrev cX8_said : ByteArray := prog_10_method_33_code
def yX8_said : MethodName := ⟨RX8, "said", "(I)I"⟩
abbrev cX8_foretold : ByteArray := prog_10_method_34_code
def yX8_foretold : MethodName := ⟨RX8, "foretold", "(IIII)I"⟩
abbrev cX8_setOf : ByteArray := prog_10_method_35_code
def yX8_setOf : MethodName := ⟨RX8, "setOf", "(I)I"⟩
abbrev cX8_ones : ByteArray := prog_10_method_36_code
def yX8_ones : MethodName := ⟨RX8, "ones", "(I)I"⟩
abbrev cX8_longest : ByteArray := prog_10_method_37_code
def yX8_longest : MethodName := ⟨RX8, "longest", "(II)I"⟩
abbrev cX8_both : ByteArray := prog_10_method_38_code
def yX8_both : MethodName := ⟨RX8, "both", "(III)I"⟩
abbrev cX8_number : ByteArray := prog_10_method_39_code
def yX8_number : MethodName := ⟨RX8, "number", "(I)I"⟩
abbrev cX8_gathers : ByteArray := prog_10_method_40_code
def yX8_gathers : MethodName := ⟨RX8, "gathers", "(I)V"⟩
abbrev cX8_counts : ByteArray := prog_10_method_41_code
def yX8_counts : MethodName := ⟨RX8, "counts", "()J"⟩
abbrev cX8_isSet : ByteArray := prog_10_method_42_code
def yX8_isSet : MethodName := ⟨RX8, "isSet", "(I)Z"⟩
abbrev cX8_orders : ByteArray := prog_10_method_43_code
def yX8_orders : MethodName := ⟨RX8, "orders", "(I)J"⟩
abbrev cX8_quarrel : ByteArray := prog_10_method_44_code
def yX8_quarrel : MethodName := ⟨RX8, "quarrel", "(II)I"⟩
abbrev cX8_ahead : ByteArray := prog_10_method_45_code
def yX8_ahead : MethodName := ⟨RX8, "ahead", "(III)I"⟩
abbrev cX8_date : ByteArray := prog_10_method_46_code
def yX8_date : MethodName := ⟨RX8, "date", "(II)I"⟩
abbrev cX8_link : ByteArray := prog_10_method_47_code
def yX8_link : MethodName := ⟨RX8, "link", "(II)I"⟩
abbrev cX8_dateAt : ByteArray := prog_10_method_48_code
def yX8_dateAt : MethodName := ⟨RX8, "dateAt", "(II)I"⟩
abbrev cX8_isWithin : ByteArray := prog_10_method_49_code
def yX8_isWithin : MethodName := ⟨RX8, "isWithin", "(III)Z"⟩
abbrev cX8_span : ByteArray := prog_10_method_50_code
def yX8_span : MethodName := ⟨RX8, "span", "(III)I"⟩
abbrev cX8_lost : ByteArray := prog_10_method_51_code
def yX8_lost : MethodName := ⟨RX8, "lost", "(I)I"⟩
abbrev cX8_court : ByteArray := prog_10_method_52_code
def yX8_court : MethodName := ⟨RX8, "court", "(III)I"⟩
abbrev cX8_worth : ByteArray := prog_10_method_53_code
def yX8_worth : MethodName := ⟨RX8, "worth", "(II)I"⟩
abbrev cX8_together : ByteArray := prog_10_method_54_code
def yX8_together : MethodName := ⟨RX8, "together", "()I"⟩
abbrev cX8_keep : ByteArray := prog_10_method_55_code
def yX8_keep : MethodName := ⟨RX8, "keep", "(I)I"⟩
abbrev cX8_back : ByteArray := prog_10_method_56_code
def yX8_back : MethodName := ⟨RX8, "back", "(I)I"⟩
abbrev cX8_count : ByteArray := prog_10_method_57_code
def yX8_count : MethodName := ⟨RX8, "count", "(I)I"⟩
abbrev cX8_trace : ByteArray := prog_10_method_58_code
def yX8_trace : MethodName := ⟨RX8, "trace", "()J"⟩
def RJx8e188 : String := "java/lang/Cloneable"
def TJx8e188 : u_T := fun k => match k with
  | _ => ("", "", "", false)
def tyJx8e188 : Nat → FieldType := fun k => match k with
  | _ => .int
abbrev wsJx8e1880 : List Cond := u_ws RJx8e188 TJx8e188 0
theorem nmJx8e188 : ∀ a, a < 0 → ∀ b, b < 0 → a ≠ b → (TJx8e188 a).2.1 ≠ (TJx8e188 b).2.1 := by decide +kernel
theorem tyJx8e188_ok : ∀ k, k < 0 → parseFieldDescriptor (TJx8e188 k).2.2.1 = some (tyJx8e188 k) := by decide +kernel
def RJ6 : String := "java/lang/Integer"
def TJ6 : u_T := fun k => match k with
  | _ => ("", "", "", false)
def tyJ6 : Nat → FieldType := fun k => match k with
  | _ => .int
abbrev wsJ60 : List Cond := u_ws RJ6 TJ6 0
theorem nmJ6 : ∀ a, a < 0 → ∀ b, b < 0 → a ≠ b → (TJ6 a).2.1 ≠ (TJ6 b).2.1 := by decide +kernel
theorem tyJ6_ok : ∀ k, k < 0 → parseFieldDescriptor (TJ6 k).2.2.1 = some (tyJ6 k) := by decide +kernel
abbrev cJ6_compare_7cf53 : ByteArray := prog_12_method_40_code
def yJ6_compare_7cf53 : MethodName := ⟨RJ6, "compare", "(II)I"⟩
abbrev cJ6_bitCount_0f7a4 : ByteArray := prog_12_method_49_code
def yJ6_bitCount_0f7a4 : MethodName := ⟨RJ6, "bitCount", "(I)I"⟩
def RJ9 : String := "java/lang/Math"
def TJ9 : u_T := fun k => match k with
  | _ => ("", "", "", false)
def tyJ9 : Nat → FieldType := fun k => match k with
  | _ => .int
abbrev wsJ90 : List Cond := u_ws RJ9 TJ9 0
theorem nmJ9 : ∀ a, a < 0 → ∀ b, b < 0 → a ≠ b → (TJ9 a).2.1 ≠ (TJ9 b).2.1 := by decide +kernel
theorem tyJ9_ok : ∀ k, k < 0 → parseFieldDescriptor (TJ9 k).2.2.1 = some (tyJ9 k) := by decide +kernel
abbrev cJ9_max_7cf53 : ByteArray := prog_13_method_65_code
def yJ9_max_7cf53 : MethodName := ⟨RJ9, "max", "(II)I"⟩
abbrev cJ9_min_7cf53 : ByteArray := prog_13_method_69_code
def yJ9_min_7cf53 : MethodName := ⟨RJ9, "min", "(II)I"⟩
def RJ0 : String := "java/lang/String"
def TJ0 : u_T := fun k => match k with
  | _ => ("", "", "", false)
def tyJ0 : Nat → FieldType := fun k => match k with
  | _ => .int
abbrev wsJ00 : List Cond := u_ws RJ0 TJ0 0
theorem nmJ0 : ∀ a, a < 0 → ∀ b, b < 0 → a ≠ b → (TJ0 a).2.1 ≠ (TJ0 b).2.1 := by decide +kernel
theorem tyJ0_ok : ∀ k, k < 0 → parseFieldDescriptor (TJ0 k).2.2.1 = some (tyJ0 k) := by decide +kernel
abbrev cJ0_length_8abf5 : ByteArray := prog_14_method_54_code
def yJ0_length_8abf5 : MethodName := ⟨RJ0, "length", "()I"⟩
abbrev cJ0_charAt_5068e : ByteArray := prog_14_method_56_code
def yJ0_charAt_5068e : MethodName := ⟨RJ0, "charAt", "(I)C"⟩
abbrev cJ0_coder_7d493 : ByteArray := prog_14_method_152_code
def yJ0_coder_7d493 : MethodName := ⟨RJ0, "coder", "()B"⟩
abbrev cJ0_isLatin1_aae02 : ByteArray := prog_14_method_154_code
def yJ0_isLatin1_aae02 : MethodName := ⟨RJ0, "isLatin1", "()Z"⟩
abbrev cJ0_checkIndex_df160 : ByteArray := prog_14_method_155_code
def yJ0_checkIndex_df160 : MethodName := ⟨RJ0, "checkIndex", "(II)V"⟩
def RJ1 : String := "java/lang/StringLatin1"
def TJ1 : u_T := fun k => match k with
  | _ => ("", "", "", false)
def tyJ1 : Nat → FieldType := fun k => match k with
  | _ => .int
abbrev wsJ10 : List Cond := u_ws RJ1 TJ1 0
theorem nmJ1 : ∀ a, a < 0 → ∀ b, b < 0 → a ≠ b → (TJ1 a).2.1 ≠ (TJ1 b).2.1 := by decide +kernel
theorem tyJ1_ok : ∀ k, k < 0 → parseFieldDescriptor (TJ1 k).2.2.1 = some (tyJ1 k) := by decide +kernel
abbrev cJ1_charAt_3b067 : ByteArray := prog_15_method_2_code
def yJ1_charAt_3b067 : MethodName := ⟨RJ1, "charAt", "([BI)C"⟩
def RJ2 : String := "java/lang/StringUTF16"
def TJ2 : u_T := fun k => match k with
  | _ => ("", "", "", false)
def tyJ2 : Nat → FieldType := fun k => match k with
  | _ => .int
abbrev wsJ20 : List Cond := u_ws RJ2 TJ2 0
theorem nmJ2 : ∀ a, a < 0 → ∀ b, b < 0 → a ≠ b → (TJ2 a).2.1 ≠ (TJ2 b).2.1 := by decide +kernel
theorem tyJ2_ok : ∀ k, k < 0 → parseFieldDescriptor (TJ2 k).2.2.1 = some (tyJ2 k) := by decide +kernel
abbrev cJ2_getChar_3b067 : ByteArray := prog_16_method_5_code
def yJ2_getChar_3b067 : MethodName := ⟨RJ2, "getChar", "([BI)C"⟩
abbrev cJ2_length_9d52b : ByteArray := prog_16_method_6_code
def yJ2_length_9d52b : MethodName := ⟨RJ2, "length", "([B)I"⟩
abbrev cJ2_charAt_3b067 : ByteArray := prog_16_method_83_code
def yJ2_charAt_3b067 : MethodName := ⟨RJ2, "charAt", "([BI)C"⟩
abbrev cJ2_checkIndex_2214a : ByteArray := prog_16_method_91_code
def yJ2_checkIndex_2214a : MethodName := ⟨RJ2, "checkIndex", "(I[B)V"⟩
def RJ10 : String := "java/lang/System"
def TJ10 : u_T := fun k => match k with
  | _ => ("", "", "", false)
def tyJ10 : Nat → FieldType := fun k => match k with
  | _ => .int
abbrev wsJ100 : List Cond := u_ws RJ10 TJ10 0
theorem nmJ10 : ∀ a, a < 0 → ∀ b, b < 0 → a ≠ b → (TJ10 a).2.1 ≠ (TJ10 b).2.1 := by decide +kernel
theorem tyJ10_ok : ∀ k, k < 0 → parseFieldDescriptor (TJ10 k).2.2.1 = some (tyJ10 k) := by decide +kernel
def RJ7 : String := "java/util/Arrays"
def TJ7 : u_T := fun k => match k with
  | _ => ("", "", "", false)
def tyJ7 : Nat → FieldType := fun k => match k with
  | _ => .int
abbrev wsJ70 : List Cond := u_ws RJ7 TJ7 0
theorem nmJ7 : ∀ a, a < 0 → ∀ b, b < 0 → a ≠ b → (TJ7 a).2.1 ≠ (TJ7 b).2.1 := by decide +kernel
theorem tyJ7_ok : ∀ k, k < 0 → parseFieldDescriptor (TJ7 k).2.2.1 = some (tyJ7 k) := by decide +kernel
abbrev cJ7_fill_53178 : ByteArray := prog_18_method_103_code
def yJ7_fill_53178 : MethodName := ⟨RJ7, "fill", "([II)V"⟩
def RJ3 : String := "jdk/internal/util/Preconditions"
def TJ3 : u_T := fun k => match k with
  | _ => ("", "", "", false)
def tyJ3 : Nat → FieldType := fun k => match k with
  | _ => .int
abbrev wsJ30 : List Cond := u_ws RJ3 TJ3 0
theorem nmJ3 : ∀ a, a < 0 → ∀ b, b < 0 → a ≠ b → (TJ3 a).2.1 ≠ (TJ3 b).2.1 := by decide +kernel
theorem tyJ3_ok : ∀ k, k < 0 → parseFieldDescriptor (TJ3 k).2.2.1 = some (tyJ3 k) := by decide +kernel
abbrev cJ3_checkIndex_8e157 : ByteArray := prog_19_method_11_code
def yJ3_checkIndex_8e157 : MethodName := ⟨RJ3, "checkIndex", "(IILjava/util/function/BiFunction;)I"⟩
def RL : String := "FatherListsLaw"
abbrev cL_law : ByteArray := code
def yL_law : MethodName := ⟨RL, "law", "([I)Z"⟩
