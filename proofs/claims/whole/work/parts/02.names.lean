/-! ===== BEGIN words of one list among another's, by their places ===== -/
theorem goodIn_r {big : List Cond} (ws : List Cond) (ps : List Nat) (hp : ws = ps.filterMap (fun i => big[i]?)) (h : ws.all goodWord = true) : GoodIn big ws := by
  intro w hw
  have h1 := List.all_eq_true.mp h w hw
  rw [hp] at hw
  obtain ⟨i, -, hi⟩ := List.mem_filterMap.mp hw
  have hm : w ∈ big := by first | exact List.mem_of_getElem? hi | exact List.getElem?_mem hi
  exact ⟨hm, good_of_word h1⟩
theorem goodIn_app {big a b : List Cond} (ha : GoodIn big a) (hb : GoodIn big b) : GoodIn big (a ++ b) := fun w h => (List.mem_append.mp h).elim (ha w) (hb w)
theorem goodIn_ca {big a b : List Cond} {c : Cond} (ha : GoodIn big (c :: a)) (hb : GoodIn big b) : GoodIn big (c :: (a ++ b)) := fun w h => (List.mem_cons.mp h).elim (fun e => ha w (List.mem_cons.mpr (Or.inl e))) (fun h => (List.mem_append.mp h).elim (fun h => ha w (List.mem_cons.mpr (Or.inr h))) (hb w))
theorem goodIn_sub {big ws : List Cond} (hm : ∀ w ∈ ws, w ∈ big) (h : ws.all goodWord = true) : GoodIn big ws := fun w hw => ⟨hm w hw, good_of_word (List.all_eq_true.mp h w hw)⟩
/-! ===== END ===== -/

/-! ===== BEGIN printed: names, fields, word lists, decode rows ===== -/
def RX0 : String := "MonsoonTrade$Dhow"
def TX0 : u_T := fun k => match k with
  | 0 => ("MonsoonTrade$Dhow", "port", "I", false)
  | 1 => ("MonsoonTrade$Dhow", "comes", "I", false)
  | 2 => ("MonsoonTrade$Dhow", "lost", "Z", false)
  | 3 => ("MonsoonTrade$Dhow", "hold", "I", false)
  | 4 => ("MonsoonTrade$Dhow", "purse", "I", false)
  | 5 => ("MonsoonTrade$Dhow", "goods", "[I", true)
  | 6 => ("MonsoonTrade$Dhow", "stake", "I", false)
  | 7 => ("MonsoonTrade$Dhow", "began", "I", false)
  | _ => ("MonsoonTrade$Dhow", "news", "LMonsoonTrade$News;", true)
def tyX0 : Nat → FieldType := fun k => match k with
  | 0 => .int
  | 1 => .int
  | 2 => .boolean
  | 3 => .int
  | 4 => .int
  | 5 => .array .int
  | 6 => .int
  | 7 => .int
  | _ => .object "MonsoonTrade$News"
abbrev wsX00 : List Cond := u_ws RX0 TX0 9
theorem nmX0 : ∀ a, a < 9 → ∀ b, b < 9 → a ≠ b → (TX0 a).2.1 ≠ (TX0 b).2.1 := by decide +kernel
theorem tyX0_ok : ∀ k, k < 9 → parseFieldDescriptor (TX0 k).2.2.1 = some (tyX0 k) := by decide +kernel
abbrev cX0_init : ByteArray := prog_2_method_1_code
def yX0_init : MethodName := ⟨RX0, "<init>", "()V"⟩
abbrev cX0_inPort : ByteArray := prog_2_method_2_code
def yX0_inPort : MethodName := ⟨RX0, "inPort", "()Z"⟩
abbrev cX0_atSea : ByteArray := prog_2_method_3_code
def yX0_atSea : MethodName := ⟨RX0, "atSea", "()Z"⟩
abbrev cX0_onVoyage : ByteArray := prog_2_method_4_code
def yX0_onVoyage : MethodName := ⟨RX0, "onVoyage", "()Z"⟩
abbrev cX0_aboard : ByteArray := prog_2_method_5_code
def yX0_aboard : MethodName := ⟨RX0, "aboard", "()I"⟩
abbrev cX0_pay : ByteArray := prog_2_method_6_code
def yX0_pay : MethodName := ⟨RX0, "pay", "(I)I"⟩
abbrev cX0_goDown : ByteArray := prog_2_method_7_code
def yX0_goDown : MethodName := ⟨RX0, "goDown", "()V"⟩
def RX1 : String := "MonsoonTrade$News"
def TX1 : u_T := fun k => match k with
  | 0 => ("MonsoonTrade$News", "ofDay", "[I", true)
  | _ => ("MonsoonTrade$News", "prices", "[I", true)
def tyX1 : Nat → FieldType := fun k => match k with
  | 0 => .array .int
  | _ => .array .int
abbrev wsX10 : List Cond := u_ws RX1 TX1 2
theorem nmX1 : ∀ a, a < 2 → ∀ b, b < 2 → a ≠ b → (TX1 a).2.1 ≠ (TX1 b).2.1 := by decide +kernel
theorem tyX1_ok : ∀ k, k < 2 → parseFieldDescriptor (TX1 k).2.2.1 = some (tyX1 k) := by decide +kernel
abbrev cX1_init : ByteArray := prog_3_method_1_code
def yX1_init : MethodName := ⟨RX1, "<init>", "()V"⟩
abbrev cX1_forget : ByteArray := prog_3_method_2_code
def yX1_forget : MethodName := ⟨RX1, "forget", "()V"⟩
abbrev cX1_knows : ByteArray := prog_3_method_3_code
def yX1_knows : MethodName := ⟨RX1, "knows", "(I)Z"⟩
abbrev cX1_priceOf : ByteArray := prog_3_method_4_code
def yX1_priceOf : MethodName := ⟨RX1, "priceOf", "(II)I"⟩
abbrev cX1_note : ByteArray := prog_3_method_5_code
def yX1_note : MethodName := ⟨RX1, "note", "(IILMonsoonTrade$Port;)V"⟩
abbrev cX1_hear : ByteArray := prog_3_method_6_code
def yX1_hear : MethodName := ⟨RX1, "hear", "(LMonsoonTrade$News;)V"⟩
def RX2 : String := "MonsoonTrade$Planner"
def TX2 : u_T := fun k => match k with
  | 0 => ("MonsoonTrade$Planner", "sea", "LMonsoonTrade$Sea;", true)
  | 1 => ("MonsoonTrade$Planner", "news", "LMonsoonTrade$News;", true)
  | 2 => ("MonsoonTrade$Planner", "goods", "[I", true)
  | 3 => ("MonsoonTrade$Planner", "stops", "[I", true)
  | 4 => ("MonsoonTrade$Planner", "port", "I", false)
  | 5 => ("MonsoonTrade$Planner", "day", "I", false)
  | 6 => ("MonsoonTrade$Planner", "coins", "I", false)
  | 7 => ("MonsoonTrade$Planner", "hold", "I", false)
  | 8 => ("MonsoonTrade$Planner", "last", "I", false)
  | 9 => ("MonsoonTrade$Planner", "worth", "I", false)
  | 10 => ("MonsoonTrade$Planner", "legs", "I", false)
  | _ => ("MonsoonTrade$Planner", "comes", "I", false)
def tyX2 : Nat → FieldType := fun k => match k with
  | 0 => .object "MonsoonTrade$Sea"
  | 1 => .object "MonsoonTrade$News"
  | 2 => .array .int
  | 3 => .array .int
  | 4 => .int
  | 5 => .int
  | 6 => .int
  | 7 => .int
  | 8 => .int
  | 9 => .int
  | 10 => .int
  | _ => .int
abbrev wsX20 : List Cond := u_ws RX2 TX2 12
theorem nmX2 : ∀ a, a < 12 → ∀ b, b < 12 → a ≠ b → (TX2 a).2.1 ≠ (TX2 b).2.1 := by decide +kernel
theorem tyX2_ok : ∀ k, k < 12 → parseFieldDescriptor (TX2 k).2.2.1 = some (tyX2 k) := by decide +kernel
abbrev cX2_init : ByteArray := prog_4_method_1_code
def yX2_init : MethodName := ⟨RX2, "<init>", "(LMonsoonTrade$Sea;)V"⟩
abbrev cX2_learn : ByteArray := prog_4_method_2_code
def yX2_learn : MethodName := ⟨RX2, "learn", "(LMonsoonTrade$Dhow;II)V"⟩
abbrev cX2_find : ByteArray := prog_4_method_3_code
def yX2_find : MethodName := ⟨RX2, "find", "(I)V"⟩
abbrev cX2_most : ByteArray := prog_4_method_4_code
def yX2_most : MethodName := ⟨RX2, "most", "(IIII)I"⟩
abbrev cX2_mostByOneLeg : ByteArray := prog_4_method_5_code
def yX2_mostByOneLeg : MethodName := ⟨RX2, "mostByOneLeg", "(III)I"⟩
abbrev cX2_trace : ByteArray := prog_4_method_6_code
def yX2_trace : MethodName := ⟨RX2, "trace", "()V"⟩
abbrev cX2_choose : ByteArray := prog_4_method_7_code
def yX2_choose : MethodName := ⟨RX2, "choose", "(III)V"⟩
abbrev cX2_arrival : ByteArray := prog_4_method_8_code
def yX2_arrival : MethodName := ⟨RX2, "arrival", "(III)I"⟩
abbrev cX2_coinsAfter : ByteArray := prog_4_method_9_code
def yX2_coinsAfter : MethodName := ⟨RX2, "coinsAfter", "(IIII)I"⟩
def RX3 : String := "MonsoonTrade$Port"
def TX3 : u_T := fun k => match k with
  | 0 => ("MonsoonTrade$Port", "x", "I", false)
  | 1 => ("MonsoonTrade$Port", "y", "I", false)
  | 2 => ("MonsoonTrade$Port", "base", "[I", true)
  | 3 => ("MonsoonTrade$Port", "fall", "[I", true)
  | 4 => ("MonsoonTrade$Port", "landed", "[I", true)
  | _ => ("MonsoonTrade$Port", "news", "LMonsoonTrade$News;", true)
def tyX3 : Nat → FieldType := fun k => match k with
  | 0 => .int
  | 1 => .int
  | 2 => .array .int
  | 3 => .array .int
  | 4 => .array .int
  | _ => .object "MonsoonTrade$News"
abbrev wsX30 : List Cond := u_ws RX3 TX3 6
theorem nmX3 : ∀ a, a < 6 → ∀ b, b < 6 → a ≠ b → (TX3 a).2.1 ≠ (TX3 b).2.1 := by decide +kernel
theorem tyX3_ok : ∀ k, k < 6 → parseFieldDescriptor (TX3 k).2.2.1 = some (tyX3 k) := by decide +kernel
abbrev cX3_init : ByteArray := prog_5_method_1_code
def yX3_init : MethodName := ⟨RX3, "<init>", "()V"⟩
abbrev cX3_priceOf : ByteArray := prog_5_method_2_code
def yX3_priceOf : MethodName := ⟨RX3, "priceOf", "(I)I"⟩
def RX4 : String := "MonsoonTrade$Reader"
def TX4 : u_T := fun k => match k with
  | 0 => ("MonsoonTrade$Reader", "tokens", "LMonsoonTrade$Tokens;", true)
  | 1 => ("MonsoonTrade$Reader", "code", "[I", true)
  | 2 => ("MonsoonTrade$Reader", "ends", "[I", true)
  | 3 => ("MonsoonTrade$Reader", "used", "I", false)
  | 4 => ("MonsoonTrade$Reader", "open", "I", false)
  | _ => ("MonsoonTrade$Reader", "fault", "I", false)
def tyX4 : Nat → FieldType := fun k => match k with
  | 0 => .object "MonsoonTrade$Tokens"
  | 1 => .array .int
  | 2 => .array .int
  | 3 => .int
  | 4 => .int
  | _ => .int
abbrev wsX40 : List Cond := u_ws RX4 TX4 6
theorem nmX4 : ∀ a, a < 6 → ∀ b, b < 6 → a ≠ b → (TX4 a).2.1 ≠ (TX4 b).2.1 := by decide +kernel
theorem tyX4_ok : ∀ k, k < 6 → parseFieldDescriptor (TX4 k).2.2.1 = some (tyX4 k) := by decide +kernel
abbrev cX4_init : ByteArray := prog_6_method_1_code
def yX4_init : MethodName := ⟨RX4, "<init>", "(LMonsoonTrade$Tokens;)V"⟩
abbrev cX4_read : ByteArray := prog_6_method_2_code
def yX4_read : MethodName := ⟨RX4, "read", "()I"⟩
abbrev cX4_readPart : ByteArray := prog_6_method_3_code
def yX4_readPart : MethodName := ⟨RX4, "readPart", "(II)V"⟩
abbrev cX4_readOr : ByteArray := prog_6_method_4_code
def yX4_readOr : MethodName := ⟨RX4, "readOr", "()V"⟩
abbrev cX4_readAnd : ByteArray := prog_6_method_5_code
def yX4_readAnd : MethodName := ⟨RX4, "readAnd", "()V"⟩
abbrev cX4_readNot : ByteArray := prog_6_method_6_code
def yX4_readNot : MethodName := ⟨RX4, "readNot", "()V"⟩
abbrev cX4_readComparison : ByteArray := prog_6_method_7_code
def yX4_readComparison : MethodName := ⟨RX4, "readComparison", "()V"⟩
abbrev cX4_readSum : ByteArray := prog_6_method_8_code
def yX4_readSum : MethodName := ⟨RX4, "readSum", "()V"⟩
abbrev cX4_readTerm : ByteArray := prog_6_method_9_code
def yX4_readTerm : MethodName := ⟨RX4, "readTerm", "()V"⟩
abbrev cX4_readOne : ByteArray := prog_6_method_10_code
def yX4_readOne : MethodName := ⟨RX4, "readOne", "()V"⟩
abbrev cX4_readNegated : ByteArray := prog_6_method_11_code
def yX4_readNegated : MethodName := ⟨RX4, "readNegated", "()V"⟩
abbrev cX4_readBracket : ByteArray := prog_6_method_12_code
def yX4_readBracket : MethodName := ⟨RX4, "readBracket", "()V"⟩
abbrev cX4_enter : ByteArray := prog_6_method_13_code
def yX4_enter : MethodName := ⟨RX4, "enter", "()Z"⟩
abbrev cX4_require : ByteArray := prog_6_method_14_code
def yX4_require : MethodName := ⟨RX4, "require", "(I)V"⟩
abbrev cX4_fail : ByteArray := prog_6_method_15_code
def yX4_fail : MethodName := ⟨RX4, "fail", "()V"⟩
abbrev cX4_emit : ByteArray := prog_6_method_16_code
def yX4_emit : MethodName := ⟨RX4, "emit", "(I)V"⟩
def RX5 : String := "MonsoonTrade$Reckoner"
def TX5 : u_T := fun k => match k with
  | 0 => ("MonsoonTrade$Reckoner", "values", "[I", true)
  | 1 => ("MonsoonTrade$Reckoner", "stack", "[I", true)
  | _ => ("MonsoonTrade$Reckoner", "top", "I", false)
def tyX5 : Nat → FieldType := fun k => match k with
  | 0 => .array .int
  | 1 => .array .int
  | _ => .int
abbrev wsX50 : List Cond := u_ws RX5 TX5 3
theorem nmX5 : ∀ a, a < 3 → ∀ b, b < 3 → a ≠ b → (TX5 a).2.1 ≠ (TX5 b).2.1 := by decide +kernel
theorem tyX5_ok : ∀ k, k < 3 → parseFieldDescriptor (TX5 k).2.2.1 = some (tyX5 k) := by decide +kernel
abbrev cX5_init : ByteArray := prog_7_method_1_code
def yX5_init : MethodName := ⟨RX5, "<init>", "()V"⟩
abbrev cX5_setVoyage : ByteArray := prog_7_method_2_code
def yX5_setVoyage : MethodName := ⟨RX5, "setVoyage", "(IIII)V"⟩
abbrev cX5_setOwn : ByteArray := prog_7_method_3_code
def yX5_setOwn : MethodName := ⟨RX5, "setOwn", "(II)V"⟩
abbrev cX5_reckon : ByteArray := prog_7_method_4_code
def yX5_reckon : MethodName := ⟨RX5, "reckon", "(LMonsoonTrade$Text;I)I"⟩
abbrev cX5_step : ByteArray := prog_7_method_5_code
def yX5_step : MethodName := ⟨RX5, "step", "(I)V"⟩
abbrev cX5_join : ByteArray := prog_7_method_6_code
def yX5_join : MethodName := ⟨RX5, "join", "(III)I"⟩
abbrev cX5_push : ByteArray := prog_7_method_7_code
def yX5_push : MethodName := ⟨RX5, "push", "(I)V"⟩
abbrev cX5_pop : ByteArray := prog_7_method_8_code
def yX5_pop : MethodName := ⟨RX5, "pop", "()I"⟩
def RX6 : String := "MonsoonTrade$Sea"
def TX6 : u_T := fun k => match k with
  | 0 => ("MonsoonTrade$Sea", "ports", "[LMonsoonTrade$Port;", true)
  | 1 => ("MonsoonTrade$Sea", "blowing", "[I", true)
  | _ => ("MonsoonTrade$Sea", "size", "I", false)
def tyX6 : Nat → FieldType := fun k => match k with
  | 0 => .array (.object "MonsoonTrade$Port")
  | 1 => .array .int
  | _ => .int
abbrev wsX60 : List Cond := u_ws RX6 TX6 3
theorem nmX6 : ∀ a, a < 3 → ∀ b, b < 3 → a ≠ b → (TX6 a).2.1 ≠ (TX6 b).2.1 := by decide +kernel
theorem tyX6_ok : ∀ k, k < 3 → parseFieldDescriptor (TX6 k).2.2.1 = some (tyX6 k) := by decide +kernel
abbrev cX6_init : ByteArray := prog_8_method_1_code
def yX6_init : MethodName := ⟨RX6, "<init>", "()V"⟩
abbrev cX6_has : ByteArray := prog_8_method_2_code
def yX6_has : MethodName := ⟨RX6, "has", "(I)Z"⟩
abbrev cX6_found : ByteArray := prog_8_method_3_code
def yX6_found : MethodName := ⟨RX6, "found", "(II)I"⟩
abbrev cX6_tellItself : ByteArray := prog_8_method_4_code
def yX6_tellItself : MethodName := ⟨RX6, "tellItself", "(II)V"⟩
abbrev cX6_crossing : ByteArray := prog_8_method_5_code
def yX6_crossing : MethodName := ⟨RX6, "crossing", "(III)I"⟩
def RX7 : String := "MonsoonTrade$Sheet"
def TX7 : u_T := fun k => match k with
  | 0 => ("MonsoonTrade$Sheet", "cells", "[I", true)
  | 1 => ("MonsoonTrade$Sheet", "sort", "I", false)
  | _ => ("MonsoonTrade$Sheet", "size", "I", false)
def tyX7 : Nat → FieldType := fun k => match k with
  | 0 => .array .int
  | 1 => .int
  | _ => .int
abbrev wsX70 : List Cond := u_ws RX7 TX7 3
theorem nmX7 : ∀ a, a < 3 → ∀ b, b < 3 → a ≠ b → (TX7 a).2.1 ≠ (TX7 b).2.1 := by decide +kernel
theorem tyX7_ok : ∀ k, k < 3 → parseFieldDescriptor (TX7 k).2.2.1 = some (tyX7 k) := by decide +kernel
abbrev cX7_init : ByteArray := prog_9_method_1_code
def yX7_init : MethodName := ⟨RX7, "<init>", "()V"⟩
abbrev cX7_missing : ByteArray := prog_9_method_2_code
def yX7_missing : MethodName := ⟨RX7, "missing", "()Z"⟩
abbrev cX7_holds : ByteArray := prog_9_method_3_code
def yX7_holds : MethodName := ⟨RX7, "holds", "(I)Z"⟩
abbrev cX7_become : ByteArray := prog_9_method_4_code
def yX7_become : MethodName := ⟨RX7, "become", "(II)V"⟩
abbrev cX7_put : ByteArray := prog_9_method_5_code
def yX7_put : MethodName := ⟨RX7, "put", "(II)V"⟩
def RX8 : String := "MonsoonTrade$Text"
def TX8 : u_T := fun k => match k with
  | 0 => ("MonsoonTrade$Text", "code", "[I", false)
  | _ => ("MonsoonTrade$Text", "ends", "[I", true)
def tyX8 : Nat → FieldType := fun k => match k with
  | 0 => .array .int
  | _ => .array .int
abbrev wsX80 : List Cond := u_ws RX8 TX8 2
theorem nmX8 : ∀ a, a < 2 → ∀ b, b < 2 → a ≠ b → (TX8 a).2.1 ≠ (TX8 b).2.1 := by decide +kernel
theorem tyX8_ok : ∀ k, k < 2 → parseFieldDescriptor (TX8 k).2.2.1 = some (tyX8 k) := by decide +kernel
abbrev cX8_init : ByteArray := prog_10_method_1_code
def yX8_init : MethodName := ⟨RX8, "<init>", "()V"⟩
abbrev cX8_keep : ByteArray := prog_10_method_2_code
def yX8_keep : MethodName := ⟨RX8, "keep", "(LMonsoonTrade$Reader;)V"⟩
abbrev cX8_firstOf : ByteArray := prog_10_method_3_code
def yX8_firstOf : MethodName := ⟨RX8, "firstOf", "(I)I"⟩
def RX9 : String := "MonsoonTrade$Tokens"
def TX9 : u_T := fun k => match k with
  | 0 => ("MonsoonTrade$Tokens", "bytes", "[B", true)
  | 1 => ("MonsoonTrade$Tokens", "size", "I", false)
  | 2 => ("MonsoonTrade$Tokens", "place", "I", false)
  | 3 => ("MonsoonTrade$Tokens", "kind", "I", false)
  | 4 => ("MonsoonTrade$Tokens", "start", "I", false)
  | _ => ("MonsoonTrade$Tokens", "number", "I", false)
def tyX9 : Nat → FieldType := fun k => match k with
  | 0 => .array .byte
  | 1 => .int
  | 2 => .int
  | 3 => .int
  | 4 => .int
  | _ => .int
abbrev wsX90 : List Cond := u_ws RX9 TX9 6
theorem nmX9 : ∀ a, a < 6 → ∀ b, b < 6 → a ≠ b → (TX9 a).2.1 ≠ (TX9 b).2.1 := by decide +kernel
theorem tyX9_ok : ∀ k, k < 6 → parseFieldDescriptor (TX9 k).2.2.1 = some (tyX9 k) := by decide +kernel
abbrev cX9_init : ByteArray := prog_11_method_1_code
def yX9_init : MethodName := ⟨RX9, "<init>", "()V"⟩
abbrev cX9_add : ByteArray := prog_11_method_2_code
def yX9_add : MethodName := ⟨RX9, "add", "(B)V"⟩
abbrev cX9_addAll : ByteArray := prog_11_method_3_code
def yX9_addAll : MethodName := ⟨RX9, "addAll", "(Ljava/lang/String;)V"⟩
abbrev cX9_clear : ByteArray := prog_11_method_4_code
def yX9_clear : MethodName := ⟨RX9, "clear", "()V"⟩
abbrev cX9_first : ByteArray := prog_11_method_5_code
def yX9_first : MethodName := ⟨RX9, "first", "()V"⟩
abbrev cX9_next : ByteArray := prog_11_method_6_code
def yX9_next : MethodName := ⟨RX9, "next", "()V"⟩
abbrev cX9_takeWord : ByteArray := prog_11_method_7_code
def yX9_takeWord : MethodName := ⟨RX9, "takeWord", "()V"⟩
abbrev cX9_takeNumber : ByteArray := prog_11_method_8_code
def yX9_takeNumber : MethodName := ⟨RX9, "takeNumber", "()V"⟩
abbrev cX9_takeSign : ByteArray := prog_11_method_9_code
def yX9_takeSign : MethodName := ⟨RX9, "takeSign", "()V"⟩
abbrev cX9_isBlank : ByteArray := prog_11_method_10_code
def yX9_isBlank : MethodName := ⟨RX9, "isBlank", "(B)Z"⟩
abbrev cX9_isLetter : ByteArray := prog_11_method_11_code
def yX9_isLetter : MethodName := ⟨RX9, "isLetter", "(B)Z"⟩
abbrev cX9_isDigit : ByteArray := prog_11_method_12_code
def yX9_isDigit : MethodName := ⟨RX9, "isDigit", "(B)Z"⟩
def RX10 : String := "MonsoonTrade$Venture"
def TX10 : u_T := fun k => match k with
  | 0 => ("MonsoonTrade$Venture", "kind", "I", false)
  | 1 => ("MonsoonTrade$Venture", "dhow", "I", false)
  | 2 => ("MonsoonTrade$Venture", "amount", "I", false)
  | 3 => ("MonsoonTrade$Venture", "parts", "I", false)
  | 4 => ("MonsoonTrade$Venture", "owed", "I", false)
  | 5 => ("MonsoonTrade$Venture", "got", "I", false)
  | 6 => ("MonsoonTrade$Venture", "weight", "I", false)
  | _ => ("MonsoonTrade$Venture", "over", "Z", false)
def tyX10 : Nat → FieldType := fun k => match k with
  | 0 => .int
  | 1 => .int
  | 2 => .int
  | 3 => .int
  | 4 => .int
  | 5 => .int
  | 6 => .int
  | _ => .boolean
abbrev wsX100 : List Cond := u_ws RX10 TX10 8
theorem nmX10 : ∀ a, a < 8 → ∀ b, b < 8 → a ≠ b → (TX10 a).2.1 ≠ (TX10 b).2.1 := by decide +kernel
theorem tyX10_ok : ∀ k, k < 8 → parseFieldDescriptor (TX10 k).2.2.1 = some (tyX10 k) := by decide +kernel
abbrev cX10_init : ByteArray := prog_12_method_1_code
def yX10_init : MethodName := ⟨RX10, "<init>", "()V"⟩
abbrev cX10_found : ByteArray := prog_12_method_2_code
def yX10_found : MethodName := ⟨RX10, "found", "(IIII)V"⟩
abbrev cX10_brings : ByteArray := prog_12_method_3_code
def yX10_brings : MethodName := ⟨RX10, "brings", "()I"⟩
abbrev cX10_isOn : ByteArray := prog_12_method_4_code
def yX10_isOn : MethodName := ⟨RX10, "isOn", "(I)Z"⟩
abbrev cX10_waits : ByteArray := prog_12_method_5_code
def yX10_waits : MethodName := ⟨RX10, "waits", "()Z"⟩
abbrev cX10_goDown : ByteArray := prog_12_method_6_code
def yX10_goDown : MethodName := ⟨RX10, "goDown", "()V"⟩
abbrev cX10_isOfKind : ByteArray := prog_12_method_7_code
def yX10_isOfKind : MethodName := ⟨RX10, "isOfKind", "(I)Z"⟩
def RX11 : String := "MonsoonTrade"
def TX11 : u_T := fun k => match k with
  | 0 => ("MonsoonTrade", "sea", "LMonsoonTrade$Sea;", true)
  | 1 => ("MonsoonTrade", "dhows", "[LMonsoonTrade$Dhow;", true)
  | 2 => ("MonsoonTrade", "ventures", "[LMonsoonTrade$Venture;", true)
  | 3 => ("MonsoonTrade", "texts", "[LMonsoonTrade$Text;", true)
  | 4 => ("MonsoonTrade", "sheets", "[LMonsoonTrade$Sheet;", true)
  | 5 => ("MonsoonTrade", "tape", "LMonsoonTrade$Tokens;", true)
  | 6 => ("MonsoonTrade", "reader", "LMonsoonTrade$Reader;", true)
  | 7 => ("MonsoonTrade", "reckoner", "LMonsoonTrade$Reckoner;", true)
  | 8 => ("MonsoonTrade", "planner", "LMonsoonTrade$Planner;", true)
  | 9 => ("MonsoonTrade", "dhowCount", "I", false)
  | 10 => ("MonsoonTrade", "ventureCount", "I", false)
  | 11 => ("MonsoonTrade", "textCount", "I", false)
  | 12 => ("MonsoonTrade", "rule", "I", false)
  | _ => ("MonsoonTrade", "today", "I", false)
def tyX11 : Nat → FieldType := fun k => match k with
  | 0 => .object "MonsoonTrade$Sea"
  | 1 => .array (.object "MonsoonTrade$Dhow")
  | 2 => .array (.object "MonsoonTrade$Venture")
  | 3 => .array (.object "MonsoonTrade$Text")
  | 4 => .array (.object "MonsoonTrade$Sheet")
  | 5 => .object "MonsoonTrade$Tokens"
  | 6 => .object "MonsoonTrade$Reader"
  | 7 => .object "MonsoonTrade$Reckoner"
  | 8 => .object "MonsoonTrade$Planner"
  | 9 => .int
  | 10 => .int
  | 11 => .int
  | 12 => .int
  | _ => .int
abbrev wsX110 : List Cond := u_ws RX11 TX11 14
theorem nmX11 : ∀ a, a < 14 → ∀ b, b < 14 → a ≠ b → (TX11 a).2.1 ≠ (TX11 b).2.1 := by decide +kernel
theorem tyX11_ok : ∀ k, k < 14 → parseFieldDescriptor (TX11 k).2.2.1 = some (tyX11 k) := by decide +kernel
abbrev cX11_init : ByteArray := prog_1_method_1_code
def yX11_init : MethodName := ⟨RX11, "<init>", "()V"⟩
abbrev cX11_port : ByteArray := prog_1_method_2_code
def yX11_port : MethodName := ⟨RX11, "port", "(II)I"⟩
abbrev cX11_wants : ByteArray := prog_1_method_3_code
def yX11_wants : MethodName := ⟨RX11, "wants", "(IIII)I"⟩
abbrev cX11_price : ByteArray := prog_1_method_4_code
def yX11_price : MethodName := ⟨RX11, "price", "(II)I"⟩
abbrev cX11_wind : ByteArray := prog_1_method_5_code
def yX11_wind : MethodName := ⟨RX11, "wind", "(II)I"⟩
abbrev cX11_winds : ByteArray := prog_1_method_6_code
def yX11_winds : MethodName := ⟨RX11, "winds", "(IIII)I"⟩
abbrev cX11_way : ByteArray := prog_1_method_7_code
def yX11_way : MethodName := ⟨RX11, "way", "(III)I"⟩
abbrev cX11_dhow : ByteArray := prog_1_method_8_code
def yX11_dhow : MethodName := ⟨RX11, "dhow", "(III)I"⟩
abbrev cX11_told : ByteArray := prog_1_method_9_code
def yX11_told : MethodName := ⟨RX11, "told", "(II)I"⟩
abbrev cX11_good : ByteArray := prog_1_method_10_code
def yX11_good : MethodName := ⟨RX11, "good", "(II)I"⟩
abbrev cX11_sell : ByteArray := prog_1_method_11_code
def yX11_sell : MethodName := ⟨RX11, "sell", "(III)I"⟩
abbrev cX11_buy : ByteArray := prog_1_method_12_code
def yX11_buy : MethodName := ⟨RX11, "buy", "(III)I"⟩
abbrev cX11_sail : ByteArray := prog_1_method_13_code
def yX11_sail : MethodName := ⟨RX11, "sail", "(II)I"⟩
abbrev cX11_days : ByteArray := prog_1_method_14_code
def yX11_days : MethodName := ⟨RX11, "days", "(I)I"⟩
abbrev cX11_lose : ByteArray := prog_1_method_15_code
def yX11_lose : MethodName := ⟨RX11, "lose", "(I)I"⟩
abbrev cX11_heard : ByteArray := prog_1_method_16_code
def yX11_heard : MethodName := ⟨RX11, "heard", "(IIII)I"⟩
abbrev cX11_venture : ByteArray := prog_1_method_17_code
def yX11_venture : MethodName := ⟨RX11, "venture", "(IIII)I"⟩
abbrev cX11_ventureTold : ByteArray := prog_1_method_18_code
def yX11_ventureTold : MethodName := ⟨RX11, "ventureTold", "(II)I"⟩
abbrev cX11_on : ByteArray := prog_1_method_19_code
def yX11_on : MethodName := ⟨RX11, "on", "(II)I"⟩
abbrev cX11_begin : ByteArray := prog_1_method_20_code
def yX11_begin : MethodName := ⟨RX11, "begin", "(I)I"⟩
abbrev cX11_end : ByteArray := prog_1_method_21_code
def yX11_end : MethodName := ⟨RX11, "end", "(I)I"⟩
abbrev cX11_feed : ByteArray := prog_1_method_22_code
def yX11_feed : MethodName := ⟨RX11, "feed", "(IJ)I"⟩
abbrev cX11_text : ByteArray := prog_1_method_23_code
def yX11_text : MethodName := ⟨RX11, "text", "()I"⟩
abbrev cX11_force : ByteArray := prog_1_method_24_code
def yX11_force : MethodName := ⟨RX11, "force", "(I)I"⟩
abbrev cX11_says : ByteArray := prog_1_method_25_code
def yX11_says : MethodName := ⟨RX11, "says", "(IIIIIII)J"⟩
abbrev cX11_order : ByteArray := prog_1_method_26_code
def yX11_order : MethodName := ⟨RX11, "order", "(IIII)J"⟩
abbrev cX11_leg : ByteArray := prog_1_method_27_code
def yX11_leg : MethodName := ⟨RX11, "leg", "(IIII)I"⟩
abbrev cX11_count : ByteArray := prog_1_method_28_code
def yX11_count : MethodName := ⟨RX11, "count", "(I)I"⟩
abbrev cX11_sheet : ByteArray := prog_1_method_29_code
def yX11_sheet : MethodName := ⟨RX11, "sheet", "(III)I"⟩
abbrev cX11_cell : ByteArray := prog_1_method_30_code
def yX11_cell : MethodName := ⟨RX11, "cell", "(III)I"⟩
abbrev cX11_taken : ByteArray := prog_1_method_31_code
def yX11_taken : MethodName := ⟨RX11, "taken", "(II)I"⟩
abbrev cX11_within : ByteArray := prog_1_method_32_code
def yX11_within : MethodName := ⟨RX11, "within", "(III)Z"⟩
abbrev cX11_clamp : ByteArray := prog_1_method_33_code
def yX11_clamp : MethodName := ⟨RX11, "clamp", "(III)I"⟩
abbrev cX11_monthOf : ByteArray := prog_1_method_34_code
def yX11_monthOf : MethodName := ⟨RX11, "monthOf", "(I)I"⟩
abbrev cX11_isGood : ByteArray := prog_1_method_35_code
def yX11_isGood : MethodName := ⟨RX11, "isGood", "(I)Z"⟩
abbrev cX11_isSheet : ByteArray := prog_1_method_36_code
def yX11_isSheet : MethodName := ⟨RX11, "isSheet", "(I)Z"⟩
abbrev cX11_isDhow : ByteArray := prog_1_method_37_code
def yX11_isDhow : MethodName := ⟨RX11, "isDhow", "(I)Z"⟩
abbrev cX11_isVenture : ByteArray := prog_1_method_38_code
def yX11_isVenture : MethodName := ⟨RX11, "isVenture", "(I)Z"⟩
abbrev cX11_isText : ByteArray := prog_1_method_39_code
def yX11_isText : MethodName := ⟨RX11, "isText", "(I)Z"⟩
abbrev cX11_isPlan : ByteArray := prog_1_method_40_code
def yX11_isPlan : MethodName := ⟨RX11, "isPlan", "(III)Z"⟩
abbrev cX11_bringIn : ByteArray := prog_1_method_41_code
def yX11_bringIn : MethodName := ⟨RX11, "bringIn", "()V"⟩
abbrev cX11_exchangeNews : ByteArray := prog_1_method_42_code
def yX11_exchangeNews : MethodName := ⟨RX11, "exchangeNews", "(LMonsoonTrade$Dhow;)V"⟩
abbrev cX11_plan : ByteArray := prog_1_method_43_code
def yX11_plan : MethodName := ⟨RX11, "plan", "(III)Z"⟩
abbrev cX11_lostDhows : ByteArray := prog_1_method_44_code
def yX11_lostDhows : MethodName := ⟨RX11, "lostDhows", "()I"⟩
abbrev cX11_openVentures : ByteArray := prog_1_method_45_code
def yX11_openVentures : MethodName := ⟨RX11, "openVentures", "()I"⟩
abbrev cX11_menOf : ByteArray := prog_1_method_46_code
def yX11_menOf : MethodName := ⟨RX11, "menOf", "(I)I"⟩
abbrev cX11_payBottoms : ByteArray := prog_1_method_47_code
def yX11_payBottoms : MethodName := ⟨RX11, "payBottoms", "(I)V"⟩
abbrev cX11_weighAll : ByteArray := prog_1_method_48_code
def yX11_weighAll : MethodName := ⟨RX11, "weighAll", "(I)J"⟩
abbrev cX11_weigh : ByteArray := prog_1_method_49_code
def yX11_weigh : MethodName := ⟨RX11, "weigh", "(LMonsoonTrade$Venture;)I"⟩
abbrev cX11_partWith : ByteArray := prog_1_method_50_code
def yX11_partWith : MethodName := ⟨RX11, "partWith", "(LMonsoonTrade$Venture;LMonsoonTrade$Dhow;IJ)V"⟩
def RX12 : String := "MonsoonTradeModel"
def TX12 : u_T := fun k => match k with
  | 0 => ("MonsoonTradeModel", "day", "I", false)
  | 1 => ("MonsoonTradeModel", "ports", "I", false)
  | 2 => ("MonsoonTradeModel", "px", "[I", true)
  | 3 => ("MonsoonTradeModel", "py", "[I", true)
  | 4 => ("MonsoonTradeModel", "base", "[I", true)
  | 5 => ("MonsoonTradeModel", "fall", "[I", true)
  | 6 => ("MonsoonTradeModel", "landed", "[I", true)
  | 7 => ("MonsoonTradeModel", "winds", "[I", true)
  | 8 => ("MonsoonTradeModel", "dhows", "I", false)
  | 9 => ("MonsoonTradeModel", "place", "[I", true)
  | 10 => ("MonsoonTradeModel", "comes", "[I", true)
  | 11 => ("MonsoonTradeModel", "hold", "[I", true)
  | 12 => ("MonsoonTradeModel", "purse", "[I", true)
  | 13 => ("MonsoonTradeModel", "stake", "[I", true)
  | 14 => ("MonsoonTradeModel", "began", "[I", true)
  | 15 => ("MonsoonTradeModel", "isLost", "[Z", true)
  | 16 => ("MonsoonTradeModel", "aboard", "[I", true)
  | 17 => ("MonsoonTradeModel", "wordDay", "[I", true)
  | 18 => ("MonsoonTradeModel", "wordPrice", "[I", true)
  | 19 => ("MonsoonTradeModel", "ventures", "I", false)
  | 20 => ("MonsoonTradeModel", "kind", "[I", true)
  | 21 => ("MonsoonTradeModel", "on", "[I", true)
  | 22 => ("MonsoonTradeModel", "amount", "[I", true)
  | 23 => ("MonsoonTradeModel", "parts", "[I", true)
  | 24 => ("MonsoonTradeModel", "owed", "[I", true)
  | 25 => ("MonsoonTradeModel", "isOver", "[Z", true)
  | 26 => ("MonsoonTradeModel", "got", "[I", true)
  | 27 => ("MonsoonTradeModel", "gain", "I", false)
  | 28 => ("MonsoonTradeModel", "spent", "I", false)
  | 29 => ("MonsoonTradeModel", "men", "I", false)
  | 30 => ("MonsoonTradeModel", "weight", "[J", true)
  | 31 => ("MonsoonTradeModel", "tape", "[B", true)
  | 32 => ("MonsoonTradeModel", "taped", "I", false)
  | 33 => ("MonsoonTradeModel", "texts", "I", false)
  | 34 => ("MonsoonTradeModel", "rule", "I", false)
  | 35 => ("MonsoonTradeModel", "acts", "[I", true)
  | 36 => ("MonsoonTradeModel", "act", "[I", true)
  | 37 => ("MonsoonTradeModel", "number", "[I", true)
  | 38 => ("MonsoonTradeModel", "letters", "[C", true)
  | 39 => ("MonsoonTradeModel", "begins", "[I", true)
  | 40 => ("MonsoonTradeModel", "sizes", "[I", true)
  | 41 => ("MonsoonTradeModel", "at", "I", false)
  | 42 => ("MonsoonTradeModel", "begin", "I", false)
  | 43 => ("MonsoonTradeModel", "token", "I", false)
  | 44 => ("MonsoonTradeModel", "tokenNumber", "I", false)
  | 45 => ("MonsoonTradeModel", "wait", "[I", true)
  | 46 => ("MonsoonTradeModel", "waits", "I", false)
  | 47 => ("MonsoonTradeModel", "heap", "[I", true)
  | 48 => ("MonsoonTradeModel", "knows", "[Z", true)
  | 49 => ("MonsoonTradeModel", "priceAt", "[I", true)
  | 50 => ("MonsoonTradeModel", "bestWorth", "I", false)
  | 51 => ("MonsoonTradeModel", "bestLegs", "I", false)
  | 52 => ("MonsoonTradeModel", "bestDay", "I", false)
  | 53 => ("MonsoonTradeModel", "bestCode", "I", false)
  | 54 => ("MonsoonTradeModel", "worth0", "I", false)
  | 55 => ("MonsoonTradeModel", "day0", "I", false)
  | 56 => ("MonsoonTradeModel", "sheetSort", "[I", true)
  | 57 => ("MonsoonTradeModel", "sheetSize", "[I", true)
  | _ => ("MonsoonTradeModel", "cells", "[I", true)
def tyX12 : Nat → FieldType := fun k => match k with
  | 0 => .int
  | 1 => .int
  | 2 => .array .int
  | 3 => .array .int
  | 4 => .array .int
  | 5 => .array .int
  | 6 => .array .int
  | 7 => .array .int
  | 8 => .int
  | 9 => .array .int
  | 10 => .array .int
  | 11 => .array .int
  | 12 => .array .int
  | 13 => .array .int
  | 14 => .array .int
  | 15 => .array .boolean
  | 16 => .array .int
  | 17 => .array .int
  | 18 => .array .int
  | 19 => .int
  | 20 => .array .int
  | 21 => .array .int
  | 22 => .array .int
  | 23 => .array .int
  | 24 => .array .int
  | 25 => .array .boolean
  | 26 => .array .int
  | 27 => .int
  | 28 => .int
  | 29 => .int
  | 30 => .array .long
  | 31 => .array .byte
  | 32 => .int
  | 33 => .int
  | 34 => .int
  | 35 => .array .int
  | 36 => .array .int
  | 37 => .array .int
  | 38 => .array .char
  | 39 => .array .int
  | 40 => .array .int
  | 41 => .int
  | 42 => .int
  | 43 => .int
  | 44 => .int
  | 45 => .array .int
  | 46 => .int
  | 47 => .array .int
  | 48 => .array .boolean
  | 49 => .array .int
  | 50 => .int
  | 51 => .int
  | 52 => .int
  | 53 => .int
  | 54 => .int
  | 55 => .int
  | 56 => .array .int
  | 57 => .array .int
  | _ => .array .int
abbrev wsX120 : List Cond := u_ws RX12 TX12 59
theorem nmX12 : ∀ a, a < 59 → ∀ b, b < 59 → a ≠ b → (TX12 a).2.1 ≠ (TX12 b).2.1 := by decide +kernel
theorem tyX12_ok : ∀ k, k < 59 → parseFieldDescriptor (TX12 k).2.2.1 = some (tyX12 k) := by decide +kernel
abbrev cX12_isIn : ByteArray := prog_14_method_1_code
def yX12_isIn : MethodName := ⟨RX12, "isIn", "(JJJ)Z"⟩
abbrev cX12_isPort : ByteArray := prog_14_method_2_code
def yX12_isPort : MethodName := ⟨RX12, "isPort", "(I)Z"⟩
abbrev cX12_isDhow : ByteArray := prog_14_method_3_code
def yX12_isDhow : MethodName := ⟨RX12, "isDhow", "(I)Z"⟩
abbrev cX12_isGood : ByteArray := prog_14_method_4_code
def yX12_isGood : MethodName := ⟨RX12, "isGood", "(I)Z"⟩
abbrev cX12_priceOf : ByteArray := prog_14_method_5_code
def yX12_priceOf : MethodName := ⟨RX12, "priceOf", "(II)I"⟩
abbrev cX12_port : ByteArray := prog_14_method_6_code
def yX12_port : MethodName := ⟨RX12, "port", "(II)I"⟩
abbrev cX12_wants : ByteArray := prog_14_method_7_code
def yX12_wants : MethodName := ⟨RX12, "wants", "(IIII)I"⟩
abbrev cX12_price : ByteArray := prog_14_method_8_code
def yX12_price : MethodName := ⟨RX12, "price", "(II)I"⟩
abbrev cX12_wind : ByteArray := prog_14_method_9_code
def yX12_wind : MethodName := ⟨RX12, "wind", "(II)I"⟩
abbrev cX12_winds : ByteArray := prog_14_method_10_code
def yX12_winds : MethodName := ⟨RX12, "winds", "(IIII)I"⟩
abbrev cX12_wayOf : ByteArray := prog_14_method_11_code
def yX12_wayOf : MethodName := ⟨RX12, "wayOf", "(III)I"⟩
abbrev cX12_way : ByteArray := prog_14_method_12_code
def yX12_way : MethodName := ⟨RX12, "way", "(III)I"⟩
abbrev cX12_know : ByteArray := prog_14_method_13_code
def yX12_know : MethodName := ⟨RX12, "know", "(I)V"⟩
abbrev cX12_hear : ByteArray := prog_14_method_14_code
def yX12_hear : MethodName := ⟨RX12, "hear", "(II)V"⟩
abbrev cX12_talk : ByteArray := prog_14_method_15_code
def yX12_talk : MethodName := ⟨RX12, "talk", "(I)V"⟩
abbrev cX12_all : ByteArray := prog_14_method_16_code
def yX12_all : MethodName := ⟨RX12, "all", "(I)I"⟩
abbrev cX12_isThere : ByteArray := prog_14_method_17_code
def yX12_isThere : MethodName := ⟨RX12, "isThere", "(I)Z"⟩
abbrev cX12_dhow : ByteArray := prog_14_method_18_code
def yX12_dhow : MethodName := ⟨RX12, "dhow", "(III)I"⟩
abbrev cX12_told : ByteArray := prog_14_method_19_code
def yX12_told : MethodName := ⟨RX12, "told", "(II)I"⟩
abbrev cX12_good : ByteArray := prog_14_method_20_code
def yX12_good : MethodName := ⟨RX12, "good", "(II)I"⟩
abbrev cX12_sell : ByteArray := prog_14_method_21_code
def yX12_sell : MethodName := ⟨RX12, "sell", "(III)I"⟩
abbrev cX12_buy : ByteArray := prog_14_method_22_code
def yX12_buy : MethodName := ⟨RX12, "buy", "(III)I"⟩
abbrev cX12_sail : ByteArray := prog_14_method_23_code
def yX12_sail : MethodName := ⟨RX12, "sail", "(II)I"⟩
abbrev cX12_days : ByteArray := prog_14_method_24_code
def yX12_days : MethodName := ⟨RX12, "days", "(I)I"⟩
abbrev cX12_lose : ByteArray := prog_14_method_25_code
def yX12_lose : MethodName := ⟨RX12, "lose", "(I)I"⟩
abbrev cX12_heard : ByteArray := prog_14_method_26_code
def yX12_heard : MethodName := ⟨RX12, "heard", "(IIII)I"⟩
abbrev cX12_venture : ByteArray := prog_14_method_27_code
def yX12_venture : MethodName := ⟨RX12, "venture", "(IIII)I"⟩
abbrev cX12_isVenture : ByteArray := prog_14_method_28_code
def yX12_isVenture : MethodName := ⟨RX12, "isVenture", "(I)Z"⟩
abbrev cX12_ventureTold : ByteArray := prog_14_method_29_code
def yX12_ventureTold : MethodName := ⟨RX12, "ventureTold", "(II)I"⟩
abbrev cX12_on : ByteArray := prog_14_method_30_code
def yX12_on : MethodName := ⟨RX12, "on", "(II)I"⟩
abbrev cX12_begin : ByteArray := prog_14_method_31_code
def yX12_begin : MethodName := ⟨RX12, "begin", "(I)I"⟩
abbrev cX12_held : ByteArray := prog_14_method_32_code
def yX12_held : MethodName := ⟨RX12, "held", "(JI)I"⟩
abbrev cX12_takesPart : ByteArray := prog_14_method_33_code
def yX12_takesPart : MethodName := ⟨RX12, "takesPart", "(II)Z"⟩
abbrev cX12_pay : ByteArray := prog_14_method_34_code
def yX12_pay : MethodName := ⟨RX12, "pay", "(III)V"⟩
abbrev cX12_payBottoms : ByteArray := prog_14_method_35_code
def yX12_payBottoms : MethodName := ⟨RX12, "payBottoms", "(I)V"⟩
abbrev cX12_weigh : ByteArray := prog_14_method_36_code
def yX12_weigh : MethodName := ⟨RX12, "weigh", "(I)J"⟩
abbrev cX12_part : ByteArray := prog_14_method_37_code
def yX12_part : MethodName := ⟨RX12, "part", "(IJJ)V"⟩
abbrev cX12_end : ByteArray := prog_14_method_38_code
def yX12_end : MethodName := ⟨RX12, "end", "(I)I"⟩
abbrev cX12_init : ByteArray := prog_14_method_39_code
def yX12_init : MethodName := ⟨RX12, "<init>", "()V"⟩
abbrev cX12_add : ByteArray := prog_14_method_40_code
def yX12_add : MethodName := ⟨RX12, "add", "(III)V"⟩
abbrev cX12_isLetter : ByteArray := prog_14_method_41_code
def yX12_isLetter : MethodName := ⟨RX12, "isLetter", "(I)Z"⟩
abbrev cX12_isDigit : ByteArray := prog_14_method_42_code
def yX12_isDigit : MethodName := ⟨RX12, "isDigit", "(I)Z"⟩
abbrev cX12_letter : ByteArray := prog_14_method_43_code
def yX12_letter : MethodName := ⟨RX12, "letter", "(I)I"⟩
abbrev cX12_wordAt : ByteArray := prog_14_method_44_code
def yX12_wordAt : MethodName := ⟨RX12, "wordAt", "(II)I"⟩
abbrev cX12_isSign : ByteArray := prog_14_method_45_code
def yX12_isSign : MethodName := ⟨RX12, "isSign", "(I)Z"⟩
abbrev cX12_next : ByteArray := prog_14_method_46_code
def yX12_next : MethodName := ⟨RX12, "next", "()V"⟩
abbrev cX12_rankOf : ByteArray := prog_14_method_47_code
def yX12_rankOf : MethodName := ⟨RX12, "rankOf", "(I)I"⟩
abbrev cX12_settle : ByteArray := prog_14_method_48_code
def yX12_settle : MethodName := ⟨RX12, "settle", "(II)V"⟩
abbrev cX12_openMany : ByteArray := prog_14_method_49_code
def yX12_openMany : MethodName := ⟨RX12, "openMany", "()I"⟩
abbrev cX12_waitsFor : ByteArray := prog_14_method_50_code
def yX12_waitsFor : MethodName := ⟨RX12, "waitsFor", "(I)Z"⟩
abbrev cX12_hasCompared : ByteArray := prog_14_method_51_code
def yX12_hasCompared : MethodName := ⟨RX12, "hasCompared", "()Z"⟩
abbrev cX12_isRead : ByteArray := prog_14_method_52_code
def yX12_isRead : MethodName := ⟨RX12, "isRead", "(I)Z"⟩
abbrev cX12_isText : ByteArray := prog_14_method_53_code
def yX12_isText : MethodName := ⟨RX12, "isText", "()Z"⟩
abbrev cX12_feed : ByteArray := prog_14_method_54_code
def yX12_feed : MethodName := ⟨RX12, "feed", "(IJ)I"⟩
abbrev cX12_text : ByteArray := prog_14_method_55_code
def yX12_text : MethodName := ⟨RX12, "text", "()I"⟩
abbrev cX12_force : ByteArray := prog_14_method_56_code
def yX12_force : MethodName := ⟨RX12, "force", "(I)I"⟩
abbrev cX12_joined : ByteArray := prog_14_method_57_code
def yX12_joined : MethodName := ⟨RX12, "joined", "(III)I"⟩
abbrev cX12_value : ByteArray := prog_14_method_58_code
def yX12_value : MethodName := ⟨RX12, "value", "(IIIIIII)I"⟩
abbrev cX12_says : ByteArray := prog_14_method_59_code
def yX12_says : MethodName := ⟨RX12, "says", "(IIIIIII)J"⟩
abbrev cX12_takeWords : ByteArray := prog_14_method_60_code
def yX12_takeWords : MethodName := ⟨RX12, "takeWords", "(I)V"⟩
abbrev cX12_goes : ByteArray := prog_14_method_61_code
def yX12_goes : MethodName := ⟨RX12, "goes", "(IIII)Z"⟩
abbrev cX12_finds : ByteArray := prog_14_method_62_code
def yX12_finds : MethodName := ⟨RX12, "finds", "(III)Z"⟩
abbrev cX12_mayOrder : ByteArray := prog_14_method_63_code
def yX12_mayOrder : MethodName := ⟨RX12, "mayOrder", "(III)Z"⟩
abbrev cX12_order : ByteArray := prog_14_method_64_code
def yX12_order : MethodName := ⟨RX12, "order", "(IIII)J"⟩
abbrev cX12_leg : ByteArray := prog_14_method_65_code
def yX12_leg : MethodName := ⟨RX12, "leg", "(IIII)I"⟩
abbrev cX12_count : ByteArray := prog_14_method_66_code
def yX12_count : MethodName := ⟨RX12, "count", "(I)I"⟩
abbrev cX12_sheet : ByteArray := prog_14_method_67_code
def yX12_sheet : MethodName := ⟨RX12, "sheet", "(III)I"⟩
abbrev cX12_cell : ByteArray := prog_14_method_68_code
def yX12_cell : MethodName := ⟨RX12, "cell", "(III)I"⟩
abbrev cX12_taken : ByteArray := prog_14_method_69_code
def yX12_taken : MethodName := ⟨RX12, "taken", "(II)I"⟩
def RJx145de : String := "java/io/Serializable"
def TJx145de : u_T := fun k => match k with
  | _ => ("", "", "", false)
def tyJx145de : Nat → FieldType := fun k => match k with
  | _ => .int
abbrev wsJx145de0 : List Cond := u_ws RJx145de TJx145de 0
theorem nmJx145de : ∀ a, a < 0 → ∀ b, b < 0 → a ≠ b → (TJx145de a).2.1 ≠ (TJx145de b).2.1 := by decide +kernel
theorem tyJx145de_ok : ∀ k, k < 0 → parseFieldDescriptor (TJx145de k).2.2.1 = some (tyJx145de k) := by decide +kernel
def RJx9f9b0 : String := "java/lang/CharSequence"
def TJx9f9b0 : u_T := fun k => match k with
  | _ => ("", "", "", false)
def tyJx9f9b0 : Nat → FieldType := fun k => match k with
  | _ => .int
abbrev wsJx9f9b00 : List Cond := u_ws RJx9f9b0 TJx9f9b0 0
theorem nmJx9f9b0 : ∀ a, a < 0 → ∀ b, b < 0 → a ≠ b → (TJx9f9b0 a).2.1 ≠ (TJx9f9b0 b).2.1 := by decide +kernel
theorem tyJx9f9b0_ok : ∀ k, k < 0 → parseFieldDescriptor (TJx9f9b0 k).2.2.1 = some (tyJx9f9b0 k) := by decide +kernel
def RJ11 : String := "java/lang/Character"
def TJ11 : u_T := fun k => match k with
  | _ => ("", "", "", false)
def tyJ11 : Nat → FieldType := fun k => match k with
  | _ => .int
abbrev wsJ110 : List Cond := u_ws RJ11 TJ11 0
theorem nmJ11 : ∀ a, a < 0 → ∀ b, b < 0 → a ≠ b → (TJ11 a).2.1 ≠ (TJ11 b).2.1 := by decide +kernel
theorem tyJ11_ok : ∀ k, k < 0 → parseFieldDescriptor (TJ11 k).2.2.1 = some (tyJ11 k) := by decide +kernel
abbrev cJ11_isValidCodePoint_9a6ad : ByteArray := prog_15_method_11_code
def yJ11_isValidCodePoint_9a6ad : MethodName := ⟨RJ11, "isValidCodePoint", "(I)Z"⟩
abbrev cJ11_highSurrogate_5068e : ByteArray := prog_15_method_28_code
def yJ11_highSurrogate_5068e : MethodName := ⟨RJ11, "highSurrogate", "(I)C"⟩
abbrev cJ11_lowSurrogate_5068e : ByteArray := prog_15_method_29_code
def yJ11_lowSurrogate_5068e : MethodName := ⟨RJ11, "lowSurrogate", "(I)C"⟩
def RJx8e188 : String := "java/lang/Cloneable"
def TJx8e188 : u_T := fun k => match k with
  | _ => ("", "", "", false)
def tyJx8e188 : Nat → FieldType := fun k => match k with
  | _ => .int
abbrev wsJx8e1880 : List Cond := u_ws RJx8e188 TJx8e188 0
theorem nmJx8e188 : ∀ a, a < 0 → ∀ b, b < 0 → a ≠ b → (TJx8e188 a).2.1 ≠ (TJx8e188 b).2.1 := by decide +kernel
theorem tyJx8e188_ok : ∀ k, k < 0 → parseFieldDescriptor (TJx8e188 k).2.2.1 = some (tyJx8e188 k) := by decide +kernel
def RJxb160c : String := "java/lang/Comparable"
def TJxb160c : u_T := fun k => match k with
  | _ => ("", "", "", false)
def tyJxb160c : Nat → FieldType := fun k => match k with
  | _ => .int
abbrev wsJxb160c0 : List Cond := u_ws RJxb160c TJxb160c 0
theorem nmJxb160c : ∀ a, a < 0 → ∀ b, b < 0 → a ≠ b → (TJxb160c a).2.1 ≠ (TJxb160c b).2.1 := by decide +kernel
theorem tyJxb160c_ok : ∀ k, k < 0 → parseFieldDescriptor (TJxb160c k).2.2.1 = some (tyJxb160c k) := by decide +kernel
def RJ6 : String := "java/lang/Integer"
def TJ6 : u_T := fun k => match k with
  | _ => ("", "", "", false)
def tyJ6 : Nat → FieldType := fun k => match k with
  | _ => .int
abbrev wsJ60 : List Cond := u_ws RJ6 TJ6 0
theorem nmJ6 : ∀ a, a < 0 → ∀ b, b < 0 → a ≠ b → (TJ6 a).2.1 ≠ (TJ6 b).2.1 := by decide +kernel
theorem tyJ6_ok : ∀ k, k < 0 → parseFieldDescriptor (TJ6 k).2.2.1 = some (tyJ6 k) := by decide +kernel
abbrev cJ6_compare_7cf53 : ByteArray := prog_17_method_40_code
def yJ6_compare_7cf53 : MethodName := ⟨RJ6, "compare", "(II)I"⟩
def RJ9 : String := "java/lang/Math"
def TJ9 : u_T := fun k => match k with
  | _ => ("", "", "", false)
def tyJ9 : Nat → FieldType := fun k => match k with
  | _ => .int
abbrev wsJ90 : List Cond := u_ws RJ9 TJ9 0
theorem nmJ9 : ∀ a, a < 0 → ∀ b, b < 0 → a ≠ b → (TJ9 a).2.1 ≠ (TJ9 b).2.1 := by decide +kernel
theorem tyJ9_ok : ∀ k, k < 0 → parseFieldDescriptor (TJ9 k).2.2.1 = some (tyJ9 k) := by decide +kernel
abbrev cJ9_abs_0f7a4 : ByteArray := prog_18_method_59_code
def yJ9_abs_0f7a4 : MethodName := ⟨RJ9, "abs", "(I)I"⟩
abbrev cJ9_max_7cf53 : ByteArray := prog_18_method_65_code
def yJ9_max_7cf53 : MethodName := ⟨RJ9, "max", "(II)I"⟩
abbrev cJ9_min_7cf53 : ByteArray := prog_18_method_69_code
def yJ9_min_7cf53 : MethodName := ⟨RJ9, "min", "(II)I"⟩
def RJ0 : String := "java/lang/String"
def TJ0 : u_T := fun k => match k with
  | _ => ("", "", "", false)
def tyJ0 : Nat → FieldType := fun k => match k with
  | _ => .int
abbrev wsJ00 : List Cond := u_ws RJ0 TJ0 0
theorem nmJ0 : ∀ a, a < 0 → ∀ b, b < 0 → a ≠ b → (TJ0 a).2.1 ≠ (TJ0 b).2.1 := by decide +kernel
theorem tyJ0_ok : ∀ k, k < 0 → parseFieldDescriptor (TJ0 k).2.2.1 = some (tyJ0 k) := by decide +kernel
abbrev cJ0_length_8abf5 : ByteArray := prog_19_method_54_code
def yJ0_length_8abf5 : MethodName := ⟨RJ0, "length", "()I"⟩
abbrev cJ0_charAt_5068e : ByteArray := prog_19_method_56_code
def yJ0_charAt_5068e : MethodName := ⟨RJ0, "charAt", "(I)C"⟩
abbrev cJ0_indexOf_0f7a4 : ByteArray := prog_19_method_79_code
def yJ0_indexOf_0f7a4 : MethodName := ⟨RJ0, "indexOf", "(I)I"⟩
abbrev cJ0_indexOf_7cf53 : ByteArray := prog_19_method_80_code
def yJ0_indexOf_7cf53 : MethodName := ⟨RJ0, "indexOf", "(II)I"⟩
abbrev cJ0_coder_7d493 : ByteArray := prog_19_method_152_code
def yJ0_coder_7d493 : MethodName := ⟨RJ0, "coder", "()B"⟩
abbrev cJ0_isLatin1_aae02 : ByteArray := prog_19_method_154_code
def yJ0_isLatin1_aae02 : MethodName := ⟨RJ0, "isLatin1", "()Z"⟩
abbrev cJ0_checkIndex_df160 : ByteArray := prog_19_method_155_code
def yJ0_checkIndex_df160 : MethodName := ⟨RJ0, "checkIndex", "(II)V"⟩
abbrev cJ0_checkBoundsBeginEnd_23922 : ByteArray := prog_19_method_158_code
def yJ0_checkBoundsBeginEnd_23922 : MethodName := ⟨RJ0, "checkBoundsBeginEnd", "(III)V"⟩
def RJ1 : String := "java/lang/StringLatin1"
def TJ1 : u_T := fun k => match k with
  | _ => ("", "", "", false)
def tyJ1 : Nat → FieldType := fun k => match k with
  | _ => .int
abbrev wsJ10 : List Cond := u_ws RJ1 TJ1 0
theorem nmJ1 : ∀ a, a < 0 → ∀ b, b < 0 → a ≠ b → (TJ1 a).2.1 ≠ (TJ1 b).2.1 := by decide +kernel
theorem tyJ1_ok : ∀ k, k < 0 → parseFieldDescriptor (TJ1 k).2.2.1 = some (tyJ1 k) := by decide +kernel
abbrev cJ1_charAt_3b067 : ByteArray := prog_20_method_2_code
def yJ1_charAt_3b067 : MethodName := ⟨RJ1, "charAt", "([BI)C"⟩
abbrev cJ1_canEncode_9a6ad : ByteArray := prog_20_method_4_code
def yJ1_canEncode_9a6ad : MethodName := ⟨RJ1, "canEncode", "(I)Z"⟩
abbrev cJ1_indexOf_4cfef : ByteArray := prog_20_method_22_code
def yJ1_indexOf_4cfef : MethodName := ⟨RJ1, "indexOf", "([BIII)I"⟩
abbrev cJ1_indexOfChar_4cfef : ByteArray := prog_20_method_23_code
def yJ1_indexOfChar_4cfef : MethodName := ⟨RJ1, "indexOfChar", "([BIII)I"⟩
def RJ2 : String := "java/lang/StringUTF16"
def TJ2 : u_T := fun k => match k with
  | _ => ("", "", "", false)
def tyJ2 : Nat → FieldType := fun k => match k with
  | _ => .int
abbrev wsJ20 : List Cond := u_ws RJ2 TJ2 0
theorem nmJ2 : ∀ a, a < 0 → ∀ b, b < 0 → a ≠ b → (TJ2 a).2.1 ≠ (TJ2 b).2.1 := by decide +kernel
theorem tyJ2_ok : ∀ k, k < 0 → parseFieldDescriptor (TJ2 k).2.2.1 = some (tyJ2 k) := by decide +kernel
abbrev cJ2_getChar_3b067 : ByteArray := prog_21_method_5_code
def yJ2_getChar_3b067 : MethodName := ⟨RJ2, "getChar", "([BI)C"⟩
abbrev cJ2_length_9d52b : ByteArray := prog_21_method_6_code
def yJ2_length_9d52b : MethodName := ⟨RJ2, "length", "([B)I"⟩
abbrev cJ2_indexOf_4cfef : ByteArray := prog_21_method_40_code
def yJ2_indexOf_4cfef : MethodName := ⟨RJ2, "indexOf", "([BIII)I"⟩
abbrev cJ2_indexOfChar_4cfef : ByteArray := prog_21_method_47_code
def yJ2_indexOfChar_4cfef : MethodName := ⟨RJ2, "indexOfChar", "([BIII)I"⟩
abbrev cJ2_indexOfCharUnsafe_4cfef : ByteArray := prog_21_method_48_code
def yJ2_indexOfCharUnsafe_4cfef : MethodName := ⟨RJ2, "indexOfCharUnsafe", "([BIII)I"⟩
abbrev cJ2_indexOfSupplementary_4cfef : ByteArray := prog_21_method_49_code
def yJ2_indexOfSupplementary_4cfef : MethodName := ⟨RJ2, "indexOfSupplementary", "([BIII)I"⟩
abbrev cJ2_charAt_3b067 : ByteArray := prog_21_method_83_code
def yJ2_charAt_3b067 : MethodName := ⟨RJ2, "charAt", "([BI)C"⟩
abbrev cJ2_checkIndex_2214a : ByteArray := prog_21_method_91_code
def yJ2_checkIndex_2214a : MethodName := ⟨RJ2, "checkIndex", "(I[B)V"⟩
abbrev cJ2_checkBoundsBeginEnd_d044e : ByteArray := prog_21_method_93_code
def yJ2_checkBoundsBeginEnd_d044e : MethodName := ⟨RJ2, "checkBoundsBeginEnd", "(II[B)V"⟩
def RJ10 : String := "java/lang/System"
def TJ10 : u_T := fun k => match k with
  | _ => ("", "", "", false)
def tyJ10 : Nat → FieldType := fun k => match k with
  | _ => .int
abbrev wsJ100 : List Cond := u_ws RJ10 TJ10 0
theorem nmJ10 : ∀ a, a < 0 → ∀ b, b < 0 → a ≠ b → (TJ10 a).2.1 ≠ (TJ10 b).2.1 := by decide +kernel
theorem tyJ10_ok : ∀ k, k < 0 → parseFieldDescriptor (TJ10 k).2.2.1 = some (tyJ10 k) := by decide +kernel
def RJxfd54e : String := "java/lang/constant/Constable"
def TJxfd54e : u_T := fun k => match k with
  | _ => ("", "", "", false)
def tyJxfd54e : Nat → FieldType := fun k => match k with
  | _ => .int
abbrev wsJxfd54e0 : List Cond := u_ws RJxfd54e TJxfd54e 0
theorem nmJxfd54e : ∀ a, a < 0 → ∀ b, b < 0 → a ≠ b → (TJxfd54e a).2.1 ≠ (TJxfd54e b).2.1 := by decide +kernel
theorem tyJxfd54e_ok : ∀ k, k < 0 → parseFieldDescriptor (TJxfd54e k).2.2.1 = some (tyJxfd54e k) := by decide +kernel
def RJx3cf43 : String := "java/lang/constant/ConstantDesc"
def TJx3cf43 : u_T := fun k => match k with
  | _ => ("", "", "", false)
def tyJx3cf43 : Nat → FieldType := fun k => match k with
  | _ => .int
abbrev wsJx3cf430 : List Cond := u_ws RJx3cf43 TJx3cf43 0
theorem nmJx3cf43 : ∀ a, a < 0 → ∀ b, b < 0 → a ≠ b → (TJx3cf43 a).2.1 ≠ (TJx3cf43 b).2.1 := by decide +kernel
theorem tyJx3cf43_ok : ∀ k, k < 0 → parseFieldDescriptor (TJx3cf43 k).2.2.1 = some (tyJx3cf43 k) := by decide +kernel
def RJ7 : String := "java/util/Arrays"
def TJ7 : u_T := fun k => match k with
  | _ => ("", "", "", false)
def tyJ7 : Nat → FieldType := fun k => match k with
  | _ => .int
abbrev wsJ70 : List Cond := u_ws RJ7 TJ7 0
theorem nmJ7 : ∀ a, a < 0 → ∀ b, b < 0 → a ≠ b → (TJ7 a).2.1 ≠ (TJ7 b).2.1 := by decide +kernel
theorem tyJ7_ok : ∀ k, k < 0 → parseFieldDescriptor (TJ7 k).2.2.1 = some (tyJ7 k) := by decide +kernel
abbrev cJ7_fill_53178 : ByteArray := prog_23_method_103_code
def yJ7_fill_53178 : MethodName := ⟨RJ7, "fill", "([II)V"⟩
abbrev cJ7_copyOf_59c91 : ByteArray := prog_23_method_123_code
def yJ7_copyOf_59c91 : MethodName := ⟨RJ7, "copyOf", "([II)[I"⟩
def RJ3 : String := "jdk/internal/util/Preconditions"
def TJ3 : u_T := fun k => match k with
  | _ => ("", "", "", false)
def tyJ3 : Nat → FieldType := fun k => match k with
  | _ => .int
abbrev wsJ30 : List Cond := u_ws RJ3 TJ3 0
theorem nmJ3 : ∀ a, a < 0 → ∀ b, b < 0 → a ≠ b → (TJ3 a).2.1 ≠ (TJ3 b).2.1 := by decide +kernel
theorem tyJ3_ok : ∀ k, k < 0 → parseFieldDescriptor (TJ3 k).2.2.1 = some (tyJ3 k) := by decide +kernel
abbrev cJ3_checkIndex_8e157 : ByteArray := prog_24_method_11_code
def yJ3_checkIndex_8e157 : MethodName := ⟨RJ3, "checkIndex", "(IILjava/util/function/BiFunction;)I"⟩
abbrev cJ3_checkFromToIndex_8c36e : ByteArray := prog_24_method_12_code
def yJ3_checkFromToIndex_8c36e : MethodName := ⟨RJ3, "checkFromToIndex", "(IIILjava/util/function/BiFunction;)I"⟩
def RL : String := "MonsoonTradeLaw"
abbrev cL_law : ByteArray := code
def yL_law : MethodName := ⟨RL, "law", "([I)Z"⟩
abbrev classes : List vw_C := [(RX0, TX0, 9), (RX1, TX1, 2), (RX2, TX2, 12), (RX3, TX3, 6), (RX4, TX4, 6), (RX5, TX5, 3), (RX6, TX6, 3), (RX7, TX7, 3), (RX8, TX8, 2), (RX9, TX9, 6), (RX10, TX10, 8), (RX11, TX11, 14), (RX12, TX12, 59)]
