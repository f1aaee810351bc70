/-! ===== BEGIN words of one list among another's, by their places ===== -/
theorem goodIn_r {big : List Cond} (ws : List Cond) (ps : List Nat) (hp : ws = ps.filterMap (fun i => big[i]?)) (h : ws.all goodWord = true) : GoodIn big ws := by
  intro w hw
  have h1 := List.all_eq_true.mp h w hw
  rw [hp] at hw
  obtain ⟨i, -, hi⟩ := List.mem_filterMap.mp hw
  have hm : w ∈ big := by first | exact List.mem_of_getElem? hi | exact List.getElem?_mem hi
  exact ⟨hm, good_of_word h1⟩
theorem goodIn_app {big a b : List Cond} (ha : GoodIn big a) (hb : GoodIn big b) : GoodIn big (a ++ b) := fun w h => (List.mem_append.mp h).elim (ha w) (hb w)
theorem goodIn_ca {big a b : List Cond} {c : Cond} (ha : GoodIn big (c :: a)) (hb : GoodIn big b) : GoodIn big (c :: (a ++ b)) := fun w h => (List.mem_cons.mp h).elim (fun e => ha w (List.mem_cons.mpr (Or.inl e))) (fun h => (List.mem_append.mp h).elim (fun h => ha w (List.mem_cons.mpr (Or.inr h))) (hb w))
theorem goodIn_sub {big ws : List Cond} (hm : ∀ w ∈ ws, w ∈ big) (h : ws.all goodWord = true) : GoodIn big ws := fun w hw => ⟨hm w hw, good_of_word (List.all_eq_true.mp h w hw)⟩
/-! ===== END ===== -/

/-! ===== BEGIN printed: names, fields, word lists, decode rows ===== -/
def RX0 : String := "RingBases$Base"
def TX0 : u_T := fun k => match k with
  | 0 => ("RingBases$Base", "a", "I", false)
  | _ => ("RingBases$Base", "b", "I", false)
def tyX0 : Nat → FieldType := fun k => match k with
  | 0 => .int
  | _ => .int
abbrev wsX00 : List Cond := u_ws RX0 TX0 2
theorem nmX0 : ∀ a, a < 2 → ∀ b, b < 2 → a ≠ b → (TX0 a).2.1 ≠ (TX0 b).2.1 := by decide +kernel
theorem tyX0_ok : ∀ k, k < 2 → parseFieldDescriptor (TX0 k).2.2.1 = some (tyX0 k) := by decide +kernel
abbrev cX0_init : ByteArray := prog_2_method_1_code
def yX0_init : MethodName := ⟨RX0, "<init>", "()V"⟩
abbrev cX0_canBe : ByteArray := prog_2_method_2_code
def yX0_canBe : MethodName := ⟨RX0, "canBe", "(II)Z"⟩
abbrev cX0_become : ByteArray := prog_2_method_3_code
def yX0_become : MethodName := ⟨RX0, "become", "(II)V"⟩
abbrev cX0_top : ByteArray := prog_2_method_4_code
def yX0_top : MethodName := ⟨RX0, "top", "()I"⟩
abbrev cX0_figureOfOne : ByteArray := prog_2_method_5_code
def yX0_figureOfOne : MethodName := ⟨RX0, "figureOfOne", "(I)I"⟩
abbrev cX0_raisedM : ByteArray := prog_2_method_6_code
def yX0_raisedM : MethodName := ⟨RX0, "raisedM", "(J)J"⟩
abbrev cX0_raisedN : ByteArray := prog_2_method_7_code
def yX0_raisedN : MethodName := ⟨RX0, "raisedN", "(JJ)J"⟩
abbrev cX0_rootsApartSquared : ByteArray := prog_2_method_8_code
def yX0_rootsApartSquared : MethodName := ⟨RX0, "rootsApartSquared", "()J"⟩
abbrev cX0_sign : ByteArray := prog_2_method_9_code
def yX0_sign : MethodName := ⟨RX0, "sign", "(JJ)I"⟩
abbrev cX0_wholePart : ByteArray := prog_2_method_10_code
def yX0_wholePart : MethodName := ⟨RX0, "wholePart", "(JJ)J"⟩
abbrev cX0_squareRoot : ByteArray := prog_2_method_11_code
def yX0_squareRoot : MethodName := ⟨RX0, "squareRoot", "(J)J"⟩
def RX1 : String := "RingBases$History"
def TX1 : u_T := fun k => match k with
  | 0 => ("RingBases$History", "cells", "[I", true)
  | 1 => ("RingBases$History", "oldest", "I", false)
  | _ => ("RingBases$History", "count", "I", false)
def tyX1 : Nat → FieldType := fun k => match k with
  | 0 => .array .int
  | 1 => .int
  | _ => .int
abbrev wsX10 : List Cond := u_ws RX1 TX1 3
theorem nmX1 : ∀ a, a < 3 → ∀ b, b < 3 → a ≠ b → (TX1 a).2.1 ≠ (TX1 b).2.1 := by decide +kernel
theorem tyX1_ok : ∀ k, k < 3 → parseFieldDescriptor (TX1 k).2.2.1 = some (tyX1 k) := by decide +kernel
abbrev cX1_init : ByteArray := prog_3_method_1_code
def yX1_init : MethodName := ⟨RX1, "<init>", "()V"⟩
abbrev cX1_remember : ByteArray := prog_3_method_2_code
def yX1_remember : MethodName := ⟨RX1, "remember", "(LRingBases$State;)V"⟩
abbrev cX1_takeBack : ByteArray := prog_3_method_3_code
def yX1_takeBack : MethodName := ⟨RX1, "takeBack", "(LRingBases$State;)V"⟩
abbrev cX1_forget : ByteArray := prog_3_method_4_code
def yX1_forget : MethodName := ⟨RX1, "forget", "()V"⟩
def RX2 : String := "RingBases$Images"
def TX2 : u_T := fun k => match k with
  | 0 => ("RingBases$Images", "cells", "[I", true)
  | _ => ("RingBases$Images", "kept", "[Z", true)
def tyX2 : Nat → FieldType := fun k => match k with
  | 0 => .array .int
  | _ => .array .boolean
abbrev wsX20 : List Cond := u_ws RX2 TX2 2
theorem nmX2 : ∀ a, a < 2 → ∀ b, b < 2 → a ≠ b → (TX2 a).2.1 ≠ (TX2 b).2.1 := by decide +kernel
theorem tyX2_ok : ∀ k, k < 2 → parseFieldDescriptor (TX2 k).2.2.1 = some (tyX2 k) := by decide +kernel
abbrev cX2_init : ByteArray := prog_4_method_1_code
def yX2_init : MethodName := ⟨RX2, "<init>", "()V"⟩
abbrev cX2_take : ByteArray := prog_4_method_2_code
def yX2_take : MethodName := ⟨RX2, "take", "(ILRingBases$State;)V"⟩
abbrev cX2_give : ByteArray := prog_4_method_3_code
def yX2_give : MethodName := ⟨RX2, "give", "(ILRingBases$State;)V"⟩
def RX3 : String := "RingBases$State"
def TX3 : u_T := fun k => match k with
  | 0 => ("RingBases$State", "base", "LRingBases$Base;", true)
  | 1 => ("RingBases$State", "ms", "[I", true)
  | _ => ("RingBases$State", "ns", "[I", true)
def tyX3 : Nat → FieldType := fun k => match k with
  | 0 => .object "RingBases$Base"
  | 1 => .array .int
  | _ => .array .int
abbrev wsX30 : List Cond := u_ws RX3 TX3 3
theorem nmX3 : ∀ a, a < 3 → ∀ b, b < 3 → a ≠ b → (TX3 a).2.1 ≠ (TX3 b).2.1 := by decide +kernel
theorem tyX3_ok : ∀ k, k < 3 → parseFieldDescriptor (TX3 k).2.2.1 = some (tyX3 k) := by decide +kernel
abbrev cX3_init : ByteArray := prog_5_method_1_code
def yX3_init : MethodName := ⟨RX3, "<init>", "()V"⟩
abbrev cX3_copyInto : ByteArray := prog_5_method_2_code
def yX3_copyInto : MethodName := ⟨RX3, "copyInto", "([II)V"⟩
abbrev cX3_copyFrom : ByteArray := prog_5_method_3_code
def yX3_copyFrom : MethodName := ⟨RX3, "copyFrom", "([II)V"⟩
def RX4 : String := "RingBases$Word"
def TX4 : u_T := fun k => match k with
  | 0 => ("RingBases$Word", "figures", "[I", true)
  | 1 => ("RingBases$Word", "follower", "[I", true)
  | 2 => ("RingBases$Word", "count", "I", false)
  | 3 => ("RingBases$Word", "aheadOfPoint", "I", false)
  | 4 => ("RingBases$Word", "worthM", "I", false)
  | _ => ("RingBases$Word", "worthN", "I", false)
def tyX4 : Nat → FieldType := fun k => match k with
  | 0 => .array .int
  | 1 => .array .int
  | 2 => .int
  | 3 => .int
  | 4 => .int
  | _ => .int
abbrev wsX40 : List Cond := u_ws RX4 TX4 6
theorem nmX4 : ∀ a, a < 6 → ∀ b, b < 6 → a ≠ b → (TX4 a).2.1 ≠ (TX4 b).2.1 := by decide +kernel
theorem tyX4_ok : ∀ k, k < 6 → parseFieldDescriptor (TX4 k).2.2.1 = some (tyX4 k) := by decide +kernel
abbrev cX4_init : ByteArray := prog_6_method_1_code
def yX4_init : MethodName := ⟨RX4, "<init>", "()V"⟩
abbrev cX4_hasPoint : ByteArray := prog_6_method_2_code
def yX4_hasPoint : MethodName := ⟨RX4, "hasPoint", "()Z"⟩
abbrev cX4_signs : ByteArray := prog_6_method_3_code
def yX4_signs : MethodName := ⟨RX4, "signs", "()I"⟩
abbrev cX4_shift : ByteArray := prog_6_method_4_code
def yX4_shift : MethodName := ⟨RX4, "shift", "()I"⟩
abbrev cX4_addPoint : ByteArray := prog_6_method_5_code
def yX4_addPoint : MethodName := ⟨RX4, "addPoint", "()V"⟩
abbrev cX4_addFigure : ByteArray := prog_6_method_6_code
def yX4_addFigure : MethodName := ⟨RX4, "addFigure", "(I)V"⟩
abbrev cX4_empty : ByteArray := prog_6_method_7_code
def yX4_empty : MethodName := ⟨RX4, "empty", "()V"⟩
abbrev cX4_copyFrom : ByteArray := prog_6_method_8_code
def yX4_copyFrom : MethodName := ⟨RX4, "copyFrom", "(LRingBases$Writing;)V"⟩
abbrev cX4_reckon : ByteArray := prog_6_method_9_code
def yX4_reckon : MethodName := ⟨RX4, "reckon", "(LRingBases$Base;)Z"⟩
abbrev cX4_badly : ByteArray := prog_6_method_10_code
def yX4_badly : MethodName := ⟨RX4, "badly", "(LRingBases$Base;)I"⟩
abbrev cX4_firstBad : ByteArray := prog_6_method_11_code
def yX4_firstBad : MethodName := ⟨RX4, "firstBad", "([IILRingBases$Base;)I"⟩
abbrev cX4_isLessThanOne : ByteArray := prog_6_method_12_code
def yX4_isLessThanOne : MethodName := ⟨RX4, "isLessThanOne", "([IIILRingBases$Base;)Z"⟩
abbrev cX4_findFollower : ByteArray := prog_6_method_13_code
def yX4_findFollower : MethodName := ⟨RX4, "findFollower", "(LRingBases$Base;)Z"⟩
def RX5 : String := "RingBases$Writing"
def TX5 : u_T := fun k => match k with
  | 0 => ("RingBases$Writing", "figures", "[I", true)
  | 1 => ("RingBases$Writing", "ahead", "I", false)
  | 2 => ("RingBases$Writing", "behind", "I", false)
  | 3 => ("RingBases$Writing", "ends", "Z", false)
  | 4 => ("RingBases$Writing", "lead", "I", false)
  | 5 => ("RingBases$Writing", "round", "I", false)
  | 6 => ("RingBases$Writing", "powerMs", "[J", true)
  | 7 => ("RingBases$Writing", "powerNs", "[J", true)
  | 8 => ("RingBases$Writing", "restMs", "[J", true)
  | 9 => ("RingBases$Writing", "restNs", "[J", true)
  | 10 => ("RingBases$Writing", "leftM", "J", false)
  | 11 => ("RingBases$Writing", "leftN", "J", false)
  | 12 => ("RingBases$Writing", "ofA", "I", false)
  | 13 => ("RingBases$Writing", "ofB", "I", false)
  | 14 => ("RingBases$Writing", "ofM", "I", false)
  | _ => ("RingBases$Writing", "ofN", "I", false)
def tyX5 : Nat → FieldType := fun k => match k with
  | 0 => .array .int
  | 1 => .int
  | 2 => .int
  | 3 => .boolean
  | 4 => .int
  | 5 => .int
  | 6 => .array .long
  | 7 => .array .long
  | 8 => .array .long
  | 9 => .array .long
  | 10 => .long
  | 11 => .long
  | 12 => .int
  | 13 => .int
  | 14 => .int
  | _ => .int
abbrev wsX50 : List Cond := u_ws RX5 TX5 16
theorem nmX5 : ∀ a, a < 16 → ∀ b, b < 16 → a ≠ b → (TX5 a).2.1 ≠ (TX5 b).2.1 := by decide +kernel
theorem tyX5_ok : ∀ k, k < 16 → parseFieldDescriptor (TX5 k).2.2.1 = some (tyX5 k) := by decide +kernel
abbrev cX5_init : ByteArray := prog_7_method_1_code
def yX5_init : MethodName := ⟨RX5, "<init>", "()V"⟩
abbrev cX5_figureCount : ByteArray := prog_7_method_2_code
def yX5_figureCount : MethodName := ⟨RX5, "figureCount", "()I"⟩
abbrev cX5_hasFigure : ByteArray := prog_7_method_3_code
def yX5_hasFigure : MethodName := ⟨RX5, "hasFigure", "(I)Z"⟩
abbrev cX5_tell : ByteArray := prog_7_method_4_code
def yX5_tell : MethodName := ⟨RX5, "tell", "(I)I"⟩
abbrev cX5_spell : ByteArray := prog_7_method_5_code
def yX5_spell : MethodName := ⟨RX5, "spell", "(LRingBases$Base;II)V"⟩
abbrev cX5_spellAhead : ByteArray := prog_7_method_6_code
def yX5_spellAhead : MethodName := ⟨RX5, "spellAhead", "(LRingBases$Base;I)V"⟩
abbrev cX5_highestPlace : ByteArray := prog_7_method_7_code
def yX5_highestPlace : MethodName := ⟨RX5, "highestPlace", "(LRingBases$Base;)I"⟩
abbrev cX5_spellBehind : ByteArray := prog_7_method_8_code
def yX5_spellBehind : MethodName := ⟨RX5, "spellBehind", "(LRingBases$Base;)V"⟩
abbrev cX5_isAnythingLeft : ByteArray := prog_7_method_9_code
def yX5_isAnythingLeft : MethodName := ⟨RX5, "isAnythingLeft", "()Z"⟩
abbrev cX5_lookForRound : ByteArray := prog_7_method_10_code
def yX5_lookForRound : MethodName := ⟨RX5, "lookForRound", "(I)V"⟩
abbrev cX5_takeOut : ByteArray := prog_7_method_11_code
def yX5_takeOut : MethodName := ⟨RX5, "takeOut", "(LRingBases$Base;JJ)I"⟩
def RX6 : String := "RingBases"
def TX6 : u_T := fun k => match k with
  | 0 => ("RingBases", "now", "LRingBases$State;", true)
  | 1 => ("RingBases", "history", "LRingBases$History;", true)
  | 2 => ("RingBases", "images", "LRingBases$Images;", true)
  | 3 => ("RingBases", "word", "LRingBases$Word;", true)
  | _ => ("RingBases", "writing", "LRingBases$Writing;", true)
def tyX6 : Nat → FieldType := fun k => match k with
  | 0 => .object "RingBases$State"
  | 1 => .object "RingBases$History"
  | 2 => .object "RingBases$Images"
  | 3 => .object "RingBases$Word"
  | _ => .object "RingBases$Writing"
abbrev wsX60 : List Cond := u_ws RX6 TX6 5
theorem nmX6 : ∀ a, a < 5 → ∀ b, b < 5 → a ≠ b → (TX6 a).2.1 ≠ (TX6 b).2.1 := by decide +kernel
theorem tyX6_ok : ∀ k, k < 5 → parseFieldDescriptor (TX6 k).2.2.1 = some (tyX6 k) := by decide +kernel
abbrev cX6_init : ByteArray := prog_1_method_1_code
def yX6_init : MethodName := ⟨RX6, "<init>", "()V"⟩
abbrev cX6_base : ByteArray := prog_1_method_2_code
def yX6_base : MethodName := ⟨RX6, "base", "(II)I"⟩
abbrev cX6_put : ByteArray := prog_1_method_3_code
def yX6_put : MethodName := ⟨RX6, "put", "(III)I"⟩
abbrev cX6_deed : ByteArray := prog_1_method_4_code
def yX6_deed : MethodName := ⟨RX6, "deed", "(IIII)I"⟩
abbrev cX6_drift : ByteArray := prog_1_method_5_code
def yX6_drift : MethodName := ⟨RX6, "drift", "(II)I"⟩
abbrev cX6_undo : ByteArray := prog_1_method_6_code
def yX6_undo : MethodName := ⟨RX6, "undo", "()I"⟩
abbrev cX6_told : ByteArray := prog_1_method_7_code
def yX6_told : MethodName := ⟨RX6, "told", "(I)I"⟩
abbrev cX6_shelf : ByteArray := prog_1_method_8_code
def yX6_shelf : MethodName := ⟨RX6, "shelf", "(II)I"⟩
abbrev cX6_figure : ByteArray := prog_1_method_9_code
def yX6_figure : MethodName := ⟨RX6, "figure", "(II)I"⟩
abbrev cX6_compare : ByteArray := prog_1_method_10_code
def yX6_compare : MethodName := ⟨RX6, "compare", "(II)I"⟩
abbrev cX6_beside : ByteArray := prog_1_method_11_code
def yX6_beside : MethodName := ⟨RX6, "beside", "(I)I"⟩
abbrev cX6_norm : ByteArray := prog_1_method_12_code
def yX6_norm : MethodName := ⟨RX6, "norm", "(I)J"⟩
abbrev cX6_feed : ByteArray := prog_1_method_13_code
def yX6_feed : MethodName := ⟨RX6, "feed", "(I)I"⟩
abbrev cX6_clear : ByteArray := prog_1_method_14_code
def yX6_clear : MethodName := ⟨RX6, "clear", "()I"⟩
abbrev cX6_normal : ByteArray := prog_1_method_15_code
def yX6_normal : MethodName := ⟨RX6, "normal", "(I)I"⟩
abbrev cX6_next : ByteArray := prog_1_method_16_code
def yX6_next : MethodName := ⟨RX6, "next", "(I)I"⟩
abbrev cX6_one : ByteArray := prog_1_method_17_code
def yX6_one : MethodName := ⟨RX6, "one", "(I)I"⟩
abbrev cX6_read : ByteArray := prog_1_method_18_code
def yX6_read : MethodName := ⟨RX6, "read", "(I)I"⟩
abbrev cX6_write : ByteArray := prog_1_method_19_code
def yX6_write : MethodName := ⟨RX6, "write", "(I)I"⟩
abbrev cX6_keep : ByteArray := prog_1_method_20_code
def yX6_keep : MethodName := ⟨RX6, "keep", "(I)I"⟩
abbrev cX6_goBack : ByteArray := prog_1_method_21_code
def yX6_goBack : MethodName := ⟨RX6, "goBack", "(I)I"⟩
abbrev cX6_isNoShelf : ByteArray := prog_1_method_22_code
def yX6_isNoShelf : MethodName := ⟨RX6, "isNoShelf", "(I)Z"⟩
abbrev cX6_isOutOfBounds : ByteArray := prog_1_method_23_code
def yX6_isOutOfBounds : MethodName := ⟨RX6, "isOutOfBounds", "(J)Z"⟩
abbrev cX6_lot : ByteArray := prog_1_method_24_code
def yX6_lot : MethodName := ⟨RX6, "lot", "(J)J"⟩
abbrev cX6_signOf : ByteArray := prog_1_method_25_code
def yX6_signOf : MethodName := ⟨RX6, "signOf", "(I)I"⟩
abbrev cX6_lay : ByteArray := prog_1_method_26_code
def yX6_lay : MethodName := ⟨RX6, "lay", "(IJJ)I"⟩
abbrev cX6_spellShelf : ByteArray := prog_1_method_27_code
def yX6_spellShelf : MethodName := ⟨RX6, "spellShelf", "(I)Z"⟩
abbrev cX6_spellWord : ByteArray := prog_1_method_28_code
def yX6_spellWord : MethodName := ⟨RX6, "spellWord", "()Z"⟩
def RX7 : String := "RingBasesModel"
def TX7 : u_T := fun k => match k with
  | 0 => ("RingBasesModel", "w", "[I", true)
  | 1 => ("RingBasesModel", "known", "I", false)
  | 2 => ("RingBasesModel", "kept", "I", false)
  | 3 => ("RingBasesModel", "word", "[I", true)
  | 4 => ("RingBasesModel", "size", "I", false)
  | 5 => ("RingBasesModel", "ahead", "[I", true)
  | 6 => ("RingBasesModel", "high", "I", false)
  | 7 => ("RingBasesModel", "behind", "[I", true)
  | 8 => ("RingBasesModel", "behindMany", "I", false)
  | 9 => ("RingBasesModel", "restM", "[J", true)
  | 10 => ("RingBasesModel", "restN", "[J", true)
  | 11 => ("RingBasesModel", "powerM", "[J", true)
  | 12 => ("RingBasesModel", "powerN", "[J", true)
  | 13 => ("RingBasesModel", "ends", "I", false)
  | 14 => ("RingBasesModel", "lead", "I", false)
  | 15 => ("RingBasesModel", "round", "I", false)
  | 16 => ("RingBasesModel", "row", "[I", true)
  | 17 => ("RingBasesModel", "worthM", "J", false)
  | _ => ("RingBasesModel", "worthN", "J", false)
def tyX7 : Nat → FieldType := fun k => match k with
  | 0 => .array .int
  | 1 => .int
  | 2 => .int
  | 3 => .array .int
  | 4 => .int
  | 5 => .array .int
  | 6 => .int
  | 7 => .array .int
  | 8 => .int
  | 9 => .array .long
  | 10 => .array .long
  | 11 => .array .long
  | 12 => .array .long
  | 13 => .int
  | 14 => .int
  | 15 => .int
  | 16 => .array .int
  | 17 => .long
  | _ => .long
abbrev wsX70 : List Cond := u_ws RX7 TX7 19
theorem nmX7 : ∀ a, a < 19 → ∀ b, b < 19 → a ≠ b → (TX7 a).2.1 ≠ (TX7 b).2.1 := by decide +kernel
theorem tyX7_ok : ∀ k, k < 19 → parseFieldDescriptor (TX7 k).2.2.1 = some (tyX7 k) := by decide +kernel
abbrev cX7_init : ByteArray := prog_9_method_1_code
def yX7_init : MethodName := ⟨RX7, "<init>", "()V"⟩
abbrev cX7_in : ByteArray := prog_9_method_2_code
def yX7_in : MethodName := ⟨RX7, "in", "(JJJ)Z"⟩
abbrev cX7_has : ByteArray := prog_9_method_3_code
def yX7_has : MethodName := ⟨RX7, "has", "(II)Z"⟩
abbrev cX7_copyRow : ByteArray := prog_9_method_4_code
def yX7_copyRow : MethodName := ⟨RX7, "copyRow", "(II)V"⟩
abbrev cX7_remember : ByteArray := prog_9_method_5_code
def yX7_remember : MethodName := ⟨RX7, "remember", "()V"⟩
abbrev cX7_inside : ByteArray := prog_9_method_6_code
def yX7_inside : MethodName := ⟨RX7, "inside", "()J"⟩
abbrev cX7_signOne : ByteArray := prog_9_method_7_code
def yX7_signOne : MethodName := ⟨RX7, "signOne", "(J)I"⟩
abbrev cX7_signOf : ByteArray := prog_9_method_8_code
def yX7_signOf : MethodName := ⟨RX7, "signOf", "(JJ)I"⟩
abbrev cX7_rootOf : ByteArray := prog_9_method_9_code
def yX7_rootOf : MethodName := ⟨RX7, "rootOf", "(J)J"⟩
abbrev cX7_halfDown : ByteArray := prog_9_method_10_code
def yX7_halfDown : MethodName := ⟨RX7, "halfDown", "(J)J"⟩
abbrev cX7_wholeOf : ByteArray := prog_9_method_11_code
def yX7_wholeOf : MethodName := ⟨RX7, "wholeOf", "(JJ)J"⟩
abbrev cX7_top : ByteArray := prog_9_method_12_code
def yX7_top : MethodName := ⟨RX7, "top", "()I"⟩
abbrev cX7_layPowers : ByteArray := prog_9_method_13_code
def yX7_layPowers : MethodName := ⟨RX7, "layPowers", "(JJ)V"⟩
abbrev cX7_wasAhead : ByteArray := prog_9_method_14_code
def yX7_wasAhead : MethodName := ⟨RX7, "wasAhead", "(I)Z"⟩
abbrev cX7_layBehind : ByteArray := prog_9_method_15_code
def yX7_layBehind : MethodName := ⟨RX7, "layBehind", "()V"⟩
abbrev cX7_layWritten : ByteArray := prog_9_method_16_code
def yX7_layWritten : MethodName := ⟨RX7, "layWritten", "(JJ)V"⟩
abbrev cX7_figureAt : ByteArray := prog_9_method_17_code
def yX7_figureAt : MethodName := ⟨RX7, "figureAt", "(I)I"⟩
abbrev cX7_figures : ByteArray := prog_9_method_18_code
def yX7_figures : MethodName := ⟨RX7, "figures", "()I"⟩
abbrev cX7_pointAt : ByteArray := prog_9_method_19_code
def yX7_pointAt : MethodName := ⟨RX7, "pointAt", "()I"⟩
abbrev cX7_layRow : ByteArray := prog_9_method_20_code
def yX7_layRow : MethodName := ⟨RX7, "layRow", "()V"⟩
abbrev cX7_oneAt : ByteArray := prog_9_method_21_code
def yX7_oneAt : MethodName := ⟨RX7, "oneAt", "(I)I"⟩
abbrev cX7_isLess : ByteArray := prog_9_method_22_code
def yX7_isLess : MethodName := ⟨RX7, "isLess", "(II)Z"⟩
abbrev cX7_isWell : ByteArray := prog_9_method_23_code
def yX7_isWell : MethodName := ⟨RX7, "isWell", "(I)Z"⟩
abbrev cX7_badly : ByteArray := prog_9_method_24_code
def yX7_badly : MethodName := ⟨RX7, "badly", "()I"⟩
abbrev cX7_shiftNow : ByteArray := prog_9_method_25_code
def yX7_shiftNow : MethodName := ⟨RX7, "shiftNow", "()I"⟩
abbrev cX7_layWorth : ByteArray := prog_9_method_26_code
def yX7_layWorth : MethodName := ⟨RX7, "layWorth", "()Z"⟩
abbrev cX7_normalMany : ByteArray := prog_9_method_27_code
def yX7_normalMany : MethodName := ⟨RX7, "normalMany", "()I"⟩
abbrev cX7_layNext : ByteArray := prog_9_method_28_code
def yX7_layNext : MethodName := ⟨RX7, "layNext", "()Z"⟩
abbrev cX7_isShelf : ByteArray := prog_9_method_29_code
def yX7_isShelf : MethodName := ⟨RX7, "isShelf", "(I)Z"⟩
abbrev cX7_mOf : ByteArray := prog_9_method_30_code
def yX7_mOf : MethodName := ⟨RX7, "mOf", "(I)I"⟩
abbrev cX7_nOf : ByteArray := prog_9_method_31_code
def yX7_nOf : MethodName := ⟨RX7, "nOf", "(I)I"⟩
abbrev cX7_set : ByteArray := prog_9_method_32_code
def yX7_set : MethodName := ⟨RX7, "set", "(IJJ)I"⟩
abbrev cX7_base : ByteArray := prog_9_method_33_code
def yX7_base : MethodName := ⟨RX7, "base", "(II)I"⟩
abbrev cX7_put : ByteArray := prog_9_method_34_code
def yX7_put : MethodName := ⟨RX7, "put", "(III)I"⟩
abbrev cX7_setIn : ByteArray := prog_9_method_35_code
def yX7_setIn : MethodName := ⟨RX7, "setIn", "(IJJ)I"⟩
abbrev cX7_deed : ByteArray := prog_9_method_36_code
def yX7_deed : MethodName := ⟨RX7, "deed", "(IIII)I"⟩
abbrev cX7_drift : ByteArray := prog_9_method_37_code
def yX7_drift : MethodName := ⟨RX7, "drift", "(II)I"⟩
abbrev cX7_undo : ByteArray := prog_9_method_38_code
def yX7_undo : MethodName := ⟨RX7, "undo", "()I"⟩
abbrev cX7_well : ByteArray := prog_9_method_39_code
def yX7_well : MethodName := ⟨RX7, "well", "()I"⟩
abbrev cX7_worth : ByteArray := prog_9_method_40_code
def yX7_worth : MethodName := ⟨RX7, "worth", "(I)I"⟩
abbrev cX7_told : ByteArray := prog_9_method_41_code
def yX7_told : MethodName := ⟨RX7, "told", "(I)I"⟩
abbrev cX7_writtenOf : ByteArray := prog_9_method_42_code
def yX7_writtenOf : MethodName := ⟨RX7, "writtenOf", "(II)I"⟩
abbrev cX7_shelf : ByteArray := prog_9_method_43_code
def yX7_shelf : MethodName := ⟨RX7, "shelf", "(II)I"⟩
abbrev cX7_figure : ByteArray := prog_9_method_44_code
def yX7_figure : MethodName := ⟨RX7, "figure", "(II)I"⟩
abbrev cX7_compare : ByteArray := prog_9_method_45_code
def yX7_compare : MethodName := ⟨RX7, "compare", "(II)I"⟩
abbrev cX7_beside : ByteArray := prog_9_method_46_code
def yX7_beside : MethodName := ⟨RX7, "beside", "(I)I"⟩
abbrev cX7_norm : ByteArray := prog_9_method_47_code
def yX7_norm : MethodName := ⟨RX7, "norm", "(I)J"⟩
abbrev cX7_feed : ByteArray := prog_9_method_48_code
def yX7_feed : MethodName := ⟨RX7, "feed", "(I)I"⟩
abbrev cX7_clear : ByteArray := prog_9_method_49_code
def yX7_clear : MethodName := ⟨RX7, "clear", "()I"⟩
abbrev cX7_normal : ByteArray := prog_9_method_50_code
def yX7_normal : MethodName := ⟨RX7, "normal", "(I)I"⟩
abbrev cX7_next : ByteArray := prog_9_method_51_code
def yX7_next : MethodName := ⟨RX7, "next", "(I)I"⟩
abbrev cX7_one : ByteArray := prog_9_method_52_code
def yX7_one : MethodName := ⟨RX7, "one", "(I)I"⟩
abbrev cX7_read : ByteArray := prog_9_method_53_code
def yX7_read : MethodName := ⟨RX7, "read", "(I)I"⟩
abbrev cX7_write : ByteArray := prog_9_method_54_code
def yX7_write : MethodName := ⟨RX7, "write", "(I)I"⟩
abbrev cX7_keep : ByteArray := prog_9_method_55_code
def yX7_keep : MethodName := ⟨RX7, "keep", "(I)I"⟩
abbrev cX7_goBack : ByteArray := prog_9_method_56_code
def yX7_goBack : MethodName := ⟨RX7, "goBack", "(I)I"⟩
def RJ13 : String := "java/lang/Long"
def TJ13 : u_T := fun k => match k with
  | _ => ("", "", "", false)
def tyJ13 : Nat → FieldType := fun k => match k with
  | _ => .int
abbrev wsJ130 : List Cond := u_ws RJ13 TJ13 0
theorem nmJ13 : ∀ a, a < 0 → ∀ b, b < 0 → a ≠ b → (TJ13 a).2.1 ≠ (TJ13 b).2.1 := by decide +kernel
theorem tyJ13_ok : ∀ k, k < 0 → parseFieldDescriptor (TJ13 k).2.2.1 = some (tyJ13 k) := by decide +kernel
abbrev cJ13_compare_74951 : ByteArray := prog_10_method_42_code
def yJ13_compare_74951 : MethodName := ⟨RJ13, "compare", "(JJ)I"⟩
def RJ9 : String := "java/lang/Math"
def TJ9 : u_T := fun k => match k with
  | _ => ("", "", "", false)
def tyJ9 : Nat → FieldType := fun k => match k with
  | _ => .int
abbrev wsJ90 : List Cond := u_ws RJ9 TJ9 0
theorem nmJ9 : ∀ a, a < 0 → ∀ b, b < 0 → a ≠ b → (TJ9 a).2.1 ≠ (TJ9 b).2.1 := by decide +kernel
theorem tyJ9_ok : ∀ k, k < 0 → parseFieldDescriptor (TJ9 k).2.2.1 = some (tyJ9 k) := by decide +kernel
abbrev cJ9_abs_067f4 : ByteArray := prog_11_method_61_code
def yJ9_abs_067f4 : MethodName := ⟨RJ9, "abs", "(J)J"⟩
def RJ10 : String := "java/lang/System"
def TJ10 : u_T := fun k => match k with
  | _ => ("", "", "", false)
def tyJ10 : Nat → FieldType := fun k => match k with
  | _ => .int
abbrev wsJ100 : List Cond := u_ws RJ10 TJ10 0
theorem nmJ10 : ∀ a, a < 0 → ∀ b, b < 0 → a ≠ b → (TJ10 a).2.1 ≠ (TJ10 b).2.1 := by decide +kernel
theorem tyJ10_ok : ∀ k, k < 0 → parseFieldDescriptor (TJ10 k).2.2.1 = some (tyJ10 k) := by decide +kernel
def RL : String := "RingBasesLaw"
abbrev cL_law : ByteArray := code
def yL_law : MethodName := ⟨RL, "law", "([I)Z"⟩
def wsX0_init : List Cond := .code yX0_init cX0_init 1 none :: ([.methodLink RX0 3 objectInit, .instanceMethod objectInit, .code objectInit ⟨#[0xb1]⟩ 1 none, .fieldLink RX0 9 "RingBases$Base" "a" "I", .fieldLink RX0 15 "RingBases$Base" "b" "I"] ++ wsX00)
def wsX0_canBe : List Cond := .code yX0_canBe cX0_canBe 2 (some .boolean) :: ([])
def wsX0_become : List Cond := .code yX0_become cX0_become 3 none :: ([.fieldLink RX0 9 "RingBases$Base" "a" "I", .fieldLink RX0 15 "RingBases$Base" "b" "I"] ++ wsX00)
def wsX0_top : List Cond := .code yX0_top cX0_top 1 (some .int) :: ([.fieldLink RX0 15 "RingBases$Base" "b" "I", .fieldLink RX0 9 "RingBases$Base" "a" "I"] ++ wsX00)
def wsX0_figureOfOne : List Cond := .code yX0_figureOfOne cX0_figureOfOne 2 (some .int) :: ([.fieldLink RX0 15 "RingBases$Base" "b" "I", .fieldLink RX0 9 "RingBases$Base" "a" "I"] ++ wsX00)
def wsX0_raisedM : List Cond := .code yX0_raisedM cX0_raisedM 3 (some .long) :: ([.fieldLink RX0 15 "RingBases$Base" "b" "I"] ++ wsX00)
def wsX0_raisedN : List Cond := .code yX0_raisedN cX0_raisedN 5 (some .long) :: ([.fieldLink RX0 9 "RingBases$Base" "a" "I"] ++ wsX00)
def wsX0_rootsApartSquared : List Cond := .code yX0_rootsApartSquared cX0_rootsApartSquared 1 (some .long) :: ([.fieldLink RX0 9 "RingBases$Base" "a" "I", .constantLong RX0 18 (4), .fieldLink RX0 15 "RingBases$Base" "b" "I"] ++ wsX00)
def wsJ13_compare_74951 : List Cond := .code yJ13_compare_74951 cJ13_compare_74951 4 (some .int) :: ([])
def wsX0_sign : List Cond := .code yX0_sign cX0_sign 9 (some .int) :: ([.constantLong RX0 20 (2), .fieldLink RX0 9 "RingBases$Base" "a" "I", .methodLink RX0 22 yJ13_compare_74951, .static yJ13_compare_74951, .initialized RJ13, .code yJ13_compare_74951 cJ13_compare_74951 4 (some .int), .methodLink RX0 28 yX0_rootsApartSquared, .instanceMethod yX0_rootsApartSquared, .selects RX0 yX0_rootsApartSquared yX0_rootsApartSquared, .initialized RX0, .code yX0_rootsApartSquared cX0_rootsApartSquared 1 (some .long), .constantLong RX0 18 (4), .fieldLink RX0 15 "RingBases$Base" "b" "I"] ++ wsX00)
def wsX0_squareRoot : List Cond := .code yX0_squareRoot cX0_squareRoot 8 (some .long) :: ([.constantLong RX0 41 (1073741824)])
def wsX0_wholePart : List Cond := .code yX0_wholePart cX0_wholePart 9 (some .long) :: ([.methodLink RX0 32 Lib.MathLoose.abs_long.x, .static Lib.MathLoose.abs_long.x, .initialized "java/lang/Math", .code Lib.MathLoose.abs_long.x Lib.MathLoose.abs_long.code 2 (some .long), .fieldLink RX0 9 "RingBases$Base" "a" "I", .constantLong RX0 20 (2), .methodLink RX0 28 yX0_rootsApartSquared, .instanceMethod yX0_rootsApartSquared, .selects RX0 yX0_rootsApartSquared yX0_rootsApartSquared, .initialized RX0, .code yX0_rootsApartSquared cX0_rootsApartSquared 1 (some .long), .constantLong RX0 18 (4), .fieldLink RX0 15 "RingBases$Base" "b" "I", .methodLink RX0 38 yX0_squareRoot, .static yX0_squareRoot, .code yX0_squareRoot cX0_squareRoot 8 (some .long), .constantLong RX0 41 (1073741824)] ++ wsX00)
def wsX1_init : List Cond := .code yX1_init cX1_init 1 none :: ([.methodLink RX1 3 objectInit, .instanceMethod objectInit, .code objectInit ⟨#[0xb1]⟩ 1 none, .arrayClass .int, .fieldLink RX1 9 "RingBases$History" "cells" "[I", .fieldLink RX1 15 "RingBases$History" "oldest" "I", .fieldLink RX1 19 "RingBases$History" "count" "I"] ++ wsX10)
def wsX3_copyInto : List Cond := .code yX3_copyInto cX3_copyInto 3 none :: ([.fieldLink RX3 12 "RingBases$State" "base" "LRingBases$Base;", .fieldLink RX3 18 "RingBases$State" "ms" "[I", .methodLink RX3 32 arraycopyName, .native arraycopyName, .static arraycopyName, .initialized "java/lang/System", .fieldLink RX3 22 "RingBases$State" "ns" "[I"] ++ wsX30 ++ wsX00)
def wsX1_remember : List Cond := .code yX1_remember cX1_remember 2 none :: ([.fieldLink RX1 9 "RingBases$History" "cells" "[I", .fieldLink RX1 15 "RingBases$History" "oldest" "I", .fieldLink RX1 19 "RingBases$History" "count" "I", .methodLink RX1 22 yX3_copyInto, .instanceMethod yX3_copyInto, .selects RX3 yX3_copyInto yX3_copyInto, .initialized RX3, .code yX3_copyInto cX3_copyInto 3 none, .fieldLink RX3 12 "RingBases$State" "base" "LRingBases$Base;", .fieldLink RX3 18 "RingBases$State" "ms" "[I", .methodLink RX3 32 arraycopyName, .native arraycopyName, .static arraycopyName, .initialized "java/lang/System", .fieldLink RX3 22 "RingBases$State" "ns" "[I"] ++ wsX10 ++ wsX30 ++ wsX00)
def wsX3_copyFrom : List Cond := .code yX3_copyFrom cX3_copyFrom 3 none :: ([.fieldLink RX3 12 "RingBases$State" "base" "LRingBases$Base;", .fieldLink RX3 18 "RingBases$State" "ms" "[I", .methodLink RX3 32 arraycopyName, .native arraycopyName, .static arraycopyName, .initialized "java/lang/System", .fieldLink RX3 22 "RingBases$State" "ns" "[I", .methodLink RX3 38 yX0_become, .instanceMethod yX0_become, .selects RX0 yX0_become yX0_become, .initialized RX0, .code yX0_become cX0_become 3 none, .fieldLink RX0 9 "RingBases$Base" "a" "I", .fieldLink RX0 15 "RingBases$Base" "b" "I"] ++ wsX30 ++ wsX00)
def wsX1_takeBack : List Cond := .code yX1_takeBack cX1_takeBack 2 none :: ([.fieldLink RX1 19 "RingBases$History" "count" "I", .fieldLink RX1 9 "RingBases$History" "cells" "[I", .fieldLink RX1 15 "RingBases$History" "oldest" "I", .methodLink RX1 28 yX3_copyFrom, .instanceMethod yX3_copyFrom, .selects RX3 yX3_copyFrom yX3_copyFrom, .initialized RX3, .code yX3_copyFrom cX3_copyFrom 3 none, .fieldLink RX3 12 "RingBases$State" "base" "LRingBases$Base;", .fieldLink RX3 18 "RingBases$State" "ms" "[I", .methodLink RX3 32 arraycopyName, .native arraycopyName, .static arraycopyName, .initialized "java/lang/System", .fieldLink RX3 22 "RingBases$State" "ns" "[I", .methodLink RX3 38 yX0_become, .instanceMethod yX0_become, .selects RX0 yX0_become yX0_become, .initialized RX0, .code yX0_become cX0_become 3 none, .fieldLink RX0 9 "RingBases$Base" "a" "I", .fieldLink RX0 15 "RingBases$Base" "b" "I"] ++ wsX10 ++ wsX30 ++ wsX00)
def wsX1_forget : List Cond := .code yX1_forget cX1_forget 1 none :: ([.fieldLink RX1 19 "RingBases$History" "count" "I"] ++ wsX10)
def wsX2_init : List Cond := .code yX2_init cX2_init 1 none :: ([.methodLink RX2 3 objectInit, .instanceMethod objectInit, .code objectInit ⟨#[0xb1]⟩ 1 none, .arrayClass .int, .fieldLink RX2 9 "RingBases$Images" "cells" "[I", .arrayClass .boolean, .fieldLink RX2 15 "RingBases$Images" "kept" "[Z"] ++ wsX20)
def wsX2_take : List Cond := .code yX2_take cX2_take 3 none :: ([.fieldLink RX2 9 "RingBases$Images" "cells" "[I", .fieldLink RX2 15 "RingBases$Images" "kept" "[Z", .methodLink RX2 19 yX3_copyInto, .instanceMethod yX3_copyInto, .selects RX3 yX3_copyInto yX3_copyInto, .initialized RX3, .code yX3_copyInto cX3_copyInto 3 none, .fieldLink RX3 12 "RingBases$State" "base" "LRingBases$Base;", .fieldLink RX3 18 "RingBases$State" "ms" "[I", .methodLink RX3 32 arraycopyName, .native arraycopyName, .static arraycopyName, .initialized "java/lang/System", .fieldLink RX3 22 "RingBases$State" "ns" "[I"] ++ wsX20 ++ wsX30 ++ wsX00)
def wsX2_give : List Cond := .code yX2_give cX2_give 3 none :: ([.fieldLink RX2 9 "RingBases$Images" "cells" "[I", .methodLink RX2 25 yX3_copyFrom, .instanceMethod yX3_copyFrom, .selects RX3 yX3_copyFrom yX3_copyFrom, .initialized RX3, .code yX3_copyFrom cX3_copyFrom 3 none, .fieldLink RX3 12 "RingBases$State" "base" "LRingBases$Base;", .fieldLink RX3 18 "RingBases$State" "ms" "[I", .methodLink RX3 32 arraycopyName, .native arraycopyName, .static arraycopyName, .initialized "java/lang/System", .fieldLink RX3 22 "RingBases$State" "ns" "[I", .methodLink RX3 38 yX0_become, .instanceMethod yX0_become, .selects RX0 yX0_become yX0_become, .initialized RX0, .code yX0_become cX0_become 3 none, .fieldLink RX0 9 "RingBases$Base" "a" "I", .fieldLink RX0 15 "RingBases$Base" "b" "I"] ++ wsX20 ++ wsX30 ++ wsX00)
def wsX3_init : List Cond := .code yX3_init cX3_init 1 none :: ([.methodLink RX3 3 objectInit, .instanceMethod objectInit, .code objectInit ⟨#[0xb1]⟩ 1 none, .classLink RX3 9 RX0, .instantiable RX0 2, .initialized RX0, .fieldLink RX3 12 "RingBases$State" "base" "LRingBases$Base;", .arrayClass .int, .fieldLink RX3 18 "RingBases$State" "ms" "[I", .fieldLink RX3 22 "RingBases$State" "ns" "[I", .instanceMethod yX0_init, .code yX0_init cX0_init 1 none, .methodLink RX0 3 objectInit, .fieldLink RX0 9 "RingBases$Base" "a" "I", .fieldLink RX0 15 "RingBases$Base" "b" "I"] ++ wsX00 ++ wsX30)
def wsX4_init : List Cond := .code yX4_init cX4_init 1 none :: ([.methodLink RX4 3 objectInit, .instanceMethod objectInit, .code objectInit ⟨#[0xb1]⟩ 1 none, .arrayClass .int, .fieldLink RX4 9 "RingBases$Word" "figures" "[I", .fieldLink RX4 15 "RingBases$Word" "follower" "[I", .fieldLink RX4 18 "RingBases$Word" "count" "I", .fieldLink RX4 22 "RingBases$Word" "aheadOfPoint" "I", .fieldLink RX4 25 "RingBases$Word" "worthM" "I", .fieldLink RX4 28 "RingBases$Word" "worthN" "I"] ++ wsX40)
def wsX4_hasPoint : List Cond := .code yX4_hasPoint cX4_hasPoint 1 (some .boolean) :: ([.fieldLink RX4 22 "RingBases$Word" "aheadOfPoint" "I"] ++ wsX40)
def wsX4_signs : List Cond := .code yX4_signs cX4_signs 1 (some .int) :: ([.fieldLink RX4 18 "RingBases$Word" "count" "I", .methodLink RX4 31 yX4_hasPoint, .instanceMethod yX4_hasPoint, .selects RX4 yX4_hasPoint yX4_hasPoint, .initialized RX4, .code yX4_hasPoint cX4_hasPoint 1 (some .boolean), .fieldLink RX4 22 "RingBases$Word" "aheadOfPoint" "I"] ++ wsX40)
def wsX4_shift : List Cond := .code yX4_shift cX4_shift 1 (some .int) :: ([.fieldLink RX4 18 "RingBases$Word" "count" "I", .fieldLink RX4 22 "RingBases$Word" "aheadOfPoint" "I", .methodLink RX4 31 yX4_hasPoint, .instanceMethod yX4_hasPoint, .selects RX4 yX4_hasPoint yX4_hasPoint, .initialized RX4, .code yX4_hasPoint cX4_hasPoint 1 (some .boolean)] ++ wsX40)
def wsX4_addPoint : List Cond := .code yX4_addPoint cX4_addPoint 1 none :: ([.fieldLink RX4 18 "RingBases$Word" "count" "I", .fieldLink RX4 22 "RingBases$Word" "aheadOfPoint" "I"] ++ wsX40)
def wsX4_addFigure : List Cond := .code yX4_addFigure cX4_addFigure 2 none :: ([.fieldLink RX4 18 "RingBases$Word" "count" "I", .fieldLink RX4 9 "RingBases$Word" "figures" "[I"] ++ wsX40)
def wsX4_empty : List Cond := .code yX4_empty cX4_empty 1 none :: ([.fieldLink RX4 18 "RingBases$Word" "count" "I", .fieldLink RX4 22 "RingBases$Word" "aheadOfPoint" "I"] ++ wsX40)
def wsX5_figureCount : List Cond := .code yX5_figureCount cX5_figureCount 1 (some .int) :: ([.fieldLink RX5 15 "RingBases$Writing" "ahead" "I", .fieldLink RX5 19 "RingBases$Writing" "behind" "I"] ++ wsX50)
def wsX4_copyFrom : List Cond := .code yX4_copyFrom cX4_copyFrom 3 none :: ([.fieldLink RX4 22 "RingBases$Word" "aheadOfPoint" "I", .methodLink RX4 35 yX4_empty, .instanceMethod yX4_empty, .selects RX4 yX4_empty yX4_empty, .initialized RX4, .code yX4_empty cX4_empty 1 none, .fieldLink RX4 18 "RingBases$Word" "count" "I", .methodLink RX4 38 yX5_figureCount, .instanceMethod yX5_figureCount, .selects RX5 yX5_figureCount yX5_figureCount, .initialized RX5, .code yX5_figureCount cX5_figureCount 1 (some .int), .fieldLink RX5 15 "RingBases$Writing" "ahead" "I", .fieldLink RX5 19 "RingBases$Writing" "behind" "I", .methodLink RX4 45 yX4_addFigure, .instanceMethod yX4_addFigure, .selects RX4 yX4_addFigure yX4_addFigure, .code yX4_addFigure cX4_addFigure 2 none, .fieldLink RX4 9 "RingBases$Word" "figures" "[I"] ++ wsX50 ++ wsX40)
def wsX6_isOutOfBounds : List Cond := .code yX6_isOutOfBounds cX6_isOutOfBounds 2 (some .boolean) :: ([.constantLong RX6 218 (-999999), .constantLong RX6 220 (999999)])
def wsX4_reckon : List Cond := .code yX4_reckon cX4_reckon 9 (some .boolean) :: ([.fieldLink RX4 18 "RingBases$Word" "count" "I", .fieldLink RX4 9 "RingBases$Word" "figures" "[I", .fieldLink RX4 25 "RingBases$Word" "worthM" "I", .fieldLink RX4 28 "RingBases$Word" "worthN" "I", .methodLink RX4 55 yX0_raisedN, .instanceMethod yX0_raisedN, .selects RX0 yX0_raisedN yX0_raisedN, .initialized RX0, .code yX0_raisedN cX0_raisedN 5 (some .long), .fieldLink RX0 9 "RingBases$Base" "a" "I", .methodLink RX4 61 yX0_raisedM, .instanceMethod yX0_raisedM, .selects RX0 yX0_raisedM yX0_raisedM, .code yX0_raisedM cX0_raisedM 3 (some .long), .fieldLink RX0 15 "RingBases$Base" "b" "I", .static yX6_isOutOfBounds, .initialized RX6, .code yX6_isOutOfBounds cX6_isOutOfBounds 2 (some .boolean), .constantLong RX6 218 (-999999), .constantLong RX6 220 (999999)] ++ wsX40 ++ wsX00)
def wsX4_isLessThanOne : List Cond := .code yX4_isLessThanOne cX4_isLessThanOne 6 (some .boolean) :: ([.methodLink RX4 77 yX0_figureOfOne, .instanceMethod yX0_figureOfOne, .selects RX0 yX0_figureOfOne yX0_figureOfOne, .initialized RX0, .code yX0_figureOfOne cX0_figureOfOne 2 (some .int), .fieldLink RX0 15 "RingBases$Base" "b" "I", .fieldLink RX0 9 "RingBases$Base" "a" "I"] ++ wsX00)
def wsX4_firstBad : List Cond := .code yX4_firstBad cX4_firstBad 4 (some .int) :: ([.methodLink RX4 73 yX4_isLessThanOne, .static yX4_isLessThanOne, .initialized RX4, .code yX4_isLessThanOne cX4_isLessThanOne 6 (some .boolean), .methodLink RX4 77 yX0_figureOfOne, .instanceMethod yX0_figureOfOne, .selects RX0 yX0_figureOfOne yX0_figureOfOne, .initialized RX0, .code yX0_figureOfOne cX0_figureOfOne 2 (some .int), .fieldLink RX0 15 "RingBases$Base" "b" "I", .fieldLink RX0 9 "RingBases$Base" "a" "I"] ++ wsX00)
def wsX4_badly : List Cond := .code yX4_badly cX4_badly 3 (some .int) :: ([.fieldLink RX4 9 "RingBases$Word" "figures" "[I", .fieldLink RX4 18 "RingBases$Word" "count" "I", .fieldLink RX4 22 "RingBases$Word" "aheadOfPoint" "I", .methodLink RX4 69 yX4_firstBad, .static yX4_firstBad, .initialized RX4, .code yX4_firstBad cX4_firstBad 4 (some .int), .methodLink RX4 73 yX4_isLessThanOne, .static yX4_isLessThanOne, .code yX4_isLessThanOne cX4_isLessThanOne 6 (some .boolean), .methodLink RX4 77 yX0_figureOfOne, .instanceMethod yX0_figureOfOne, .selects RX0 yX0_figureOfOne yX0_figureOfOne, .initialized RX0, .code yX0_figureOfOne cX0_figureOfOne 2 (some .int), .fieldLink RX0 15 "RingBases$Base" "b" "I", .fieldLink RX0 9 "RingBases$Base" "a" "I", .methodLink RX4 31 yX4_hasPoint, .instanceMethod yX4_hasPoint, .selects RX4 yX4_hasPoint yX4_hasPoint, .code yX4_hasPoint cX4_hasPoint 1 (some .boolean)] ++ wsX40 ++ wsX00)
def wsX4_findFollower : List Cond := .code yX4_findFollower cX4_findFollower 3 (some .boolean) :: ([.fieldLink RX4 9 "RingBases$Word" "figures" "[I", .fieldLink RX4 15 "RingBases$Word" "follower" "[I", .fieldLink RX4 18 "RingBases$Word" "count" "I", .methodLink RX4 81 arraycopyName, .native arraycopyName, .static arraycopyName, .initialized "java/lang/System", .methodLink RX4 69 yX4_firstBad, .static yX4_firstBad, .initialized RX4, .code yX4_firstBad cX4_firstBad 4 (some .int), .methodLink RX4 73 yX4_isLessThanOne, .static yX4_isLessThanOne, .code yX4_isLessThanOne cX4_isLessThanOne 6 (some .boolean), .methodLink RX4 77 yX0_figureOfOne, .instanceMethod yX0_figureOfOne, .selects RX0 yX0_figureOfOne yX0_figureOfOne, .initialized RX0, .code yX0_figureOfOne cX0_figureOfOne 2 (some .int), .fieldLink RX0 15 "RingBases$Base" "b" "I", .fieldLink RX0 9 "RingBases$Base" "a" "I"] ++ wsX40 ++ wsX00)
def wsX5_init : List Cond := .code yX5_init cX5_init 1 none :: ([.methodLink RX5 3 objectInit, .instanceMethod objectInit, .code objectInit ⟨#[0xb1]⟩ 1 none, .arrayClass .int, .fieldLink RX5 9 "RingBases$Writing" "figures" "[I", .fieldLink RX5 15 "RingBases$Writing" "ahead" "I", .fieldLink RX5 19 "RingBases$Writing" "behind" "I", .fieldLink RX5 22 "RingBases$Writing" "ends" "Z", .fieldLink RX5 26 "RingBases$Writing" "lead" "I", .fieldLink RX5 29 "RingBases$Writing" "round" "I", .arrayClass .long, .fieldLink RX5 32 "RingBases$Writing" "powerMs" "[J", .fieldLink RX5 36 "RingBases$Writing" "powerNs" "[J", .fieldLink RX5 39 "RingBases$Writing" "restMs" "[J", .fieldLink RX5 42 "RingBases$Writing" "restNs" "[J", .fieldLink RX5 45 "RingBases$Writing" "leftM" "J", .fieldLink RX5 49 "RingBases$Writing" "leftN" "J", .fieldLink RX5 52 "RingBases$Writing" "ofA" "I", .fieldLink RX5 55 "RingBases$Writing" "ofB" "I", .fieldLink RX5 58 "RingBases$Writing" "ofM" "I", .fieldLink RX5 61 "RingBases$Writing" "ofN" "I"] ++ wsX50)
def wsX5_hasFigure : List Cond := .code yX5_hasFigure cX5_hasFigure 2 (some .boolean) :: ([.fieldLink RX5 15 "RingBases$Writing" "ahead" "I", .fieldLink RX5 19 "RingBases$Writing" "behind" "I"] ++ wsX50)
def wsX5_tell : List Cond := .code yX5_tell cX5_tell 2 (some .int) :: ([.fieldLink RX5 15 "RingBases$Writing" "ahead" "I", .fieldLink RX5 19 "RingBases$Writing" "behind" "I", .fieldLink RX5 22 "RingBases$Writing" "ends" "Z", .fieldLink RX5 26 "RingBases$Writing" "lead" "I", .fieldLink RX5 29 "RingBases$Writing" "round" "I"] ++ wsX50)
def wsX5_highestPlace_r1 : List Cond := [Cond.fieldLink RX5 32 "RingBases$Writing" "powerMs" "[J", Cond.fieldLink RX5 36 "RingBases$Writing" "powerNs" "[J", Cond.fieldLink RX5 45 "RingBases$Writing" "leftM" "J", Cond.fieldLink RX5 49 "RingBases$Writing" "leftN" "J", Cond.methodLink RX5 88 yX0_raisedM, Cond.instanceMethod yX0_raisedM, Cond.selects RX0 yX0_raisedM yX0_raisedM, Cond.initialized RX0, Cond.code yX0_raisedM cX0_raisedM 3 (some .long), Cond.fieldLink RX0 15 "RingBases$Base" "b" "I", Cond.methodLink RX5 92 yX0_raisedN, Cond.instanceMethod yX0_raisedN, Cond.selects RX0 yX0_raisedN yX0_raisedN, Cond.code yX0_raisedN cX0_raisedN 5 (some .long), Cond.fieldLink RX0 9 "RingBases$Base" "a" "I", Cond.methodLink RX5 96 yX0_sign, Cond.instanceMethod yX0_sign, Cond.selects RX0 yX0_sign yX0_sign, Cond.code yX0_sign cX0_sign 9 (some .int), Cond.constantLong RX0 20 (2), Cond.methodLink RX0 22 yJ13_compare_74951, Cond.static yJ13_compare_74951, Cond.initialized RJ13, Cond.code yJ13_compare_74951 cJ13_compare_74951 4 (some .int)]
def wsX5_highestPlace_r2 : List Cond := [Cond.methodLink RX0 28 yX0_rootsApartSquared, Cond.instanceMethod yX0_rootsApartSquared, Cond.selects RX0 yX0_rootsApartSquared yX0_rootsApartSquared, Cond.code yX0_rootsApartSquared cX0_rootsApartSquared 1 (some .long), Cond.constantLong RX0 18 (4)]
def wsX5_highestPlace : List Cond := .code yX5_highestPlace cX5_highestPlace 7 (some .int) :: ((wsX5_highestPlace_r1 ++ wsX5_highestPlace_r2) ++ wsX50 ++ wsX00)
def wsX5_takeOut : List Cond := .code yX5_takeOut cX5_takeOut 7 (some .int) :: ([.fieldLink RX5 45 "RingBases$Writing" "leftM" "J", .fieldLink RX5 49 "RingBases$Writing" "leftN" "J", .methodLink RX5 96 yX0_sign, .instanceMethod yX0_sign, .selects RX0 yX0_sign yX0_sign, .initialized RX0, .code yX0_sign cX0_sign 9 (some .int), .constantLong RX0 20 (2), .fieldLink RX0 9 "RingBases$Base" "a" "I", .methodLink RX0 22 yJ13_compare_74951, .static yJ13_compare_74951, .initialized RJ13, .code yJ13_compare_74951 cJ13_compare_74951 4 (some .int), .methodLink RX0 28 yX0_rootsApartSquared, .instanceMethod yX0_rootsApartSquared, .selects RX0 yX0_rootsApartSquared yX0_rootsApartSquared, .code yX0_rootsApartSquared cX0_rootsApartSquared 1 (some .long), .constantLong RX0 18 (4), .fieldLink RX0 15 "RingBases$Base" "b" "I"] ++ wsX50 ++ wsX00)
def wsX5_spellAhead_r1 : List Cond := [Cond.fieldLink RX5 15 "RingBases$Writing" "ahead" "I", Cond.fieldLink RX5 9 "RingBases$Writing" "figures" "[I", Cond.fieldLink RX5 32 "RingBases$Writing" "powerMs" "[J", Cond.fieldLink RX5 36 "RingBases$Writing" "powerNs" "[J", Cond.methodLink RX5 84 yX5_takeOut, Cond.instanceMethod yX5_takeOut, Cond.selects RX5 yX5_takeOut yX5_takeOut, Cond.initialized RX5, Cond.code yX5_takeOut cX5_takeOut 7 (some .int), Cond.fieldLink RX5 45 "RingBases$Writing" "leftM" "J", Cond.fieldLink RX5 49 "RingBases$Writing" "leftN" "J", Cond.methodLink RX5 96 yX0_sign, Cond.instanceMethod yX0_sign, Cond.selects RX0 yX0_sign yX0_sign, Cond.initialized RX0, Cond.code yX0_sign cX0_sign 9 (some .int), Cond.constantLong RX0 20 (2), Cond.fieldLink RX0 9 "RingBases$Base" "a" "I", Cond.methodLink RX0 22 yJ13_compare_74951, Cond.static yJ13_compare_74951, Cond.initialized RJ13, Cond.code yJ13_compare_74951 cJ13_compare_74951 4 (some .int), Cond.methodLink RX0 28 yX0_rootsApartSquared, Cond.instanceMethod yX0_rootsApartSquared]
def wsX5_spellAhead_r2 : List Cond := [Cond.selects RX0 yX0_rootsApartSquared yX0_rootsApartSquared, Cond.code yX0_rootsApartSquared cX0_rootsApartSquared 1 (some .long), Cond.constantLong RX0 18 (4), Cond.fieldLink RX0 15 "RingBases$Base" "b" "I"]
def wsX5_spellAhead : List Cond := .code yX5_spellAhead cX5_spellAhead 4 none :: ((wsX5_spellAhead_r1 ++ wsX5_spellAhead_r2) ++ wsX50 ++ wsX00)
def wsX5_isAnythingLeft : List Cond := .code yX5_isAnythingLeft cX5_isAnythingLeft 1 (some .boolean) :: ([.fieldLink RX5 45 "RingBases$Writing" "leftM" "J", .fieldLink RX5 49 "RingBases$Writing" "leftN" "J"] ++ wsX50)
def wsX5_lookForRound : List Cond := .code yX5_lookForRound cX5_lookForRound 3 none :: ([.fieldLink RX5 29 "RingBases$Writing" "round" "I", .fieldLink RX5 39 "RingBases$Writing" "restMs" "[J", .fieldLink RX5 45 "RingBases$Writing" "leftM" "J", .fieldLink RX5 42 "RingBases$Writing" "restNs" "[J", .fieldLink RX5 49 "RingBases$Writing" "leftN" "J", .fieldLink RX5 26 "RingBases$Writing" "lead" "I"] ++ wsX50)
def wsX5_spellBehind_r1 : List Cond := [Cond.fieldLink RX5 19 "RingBases$Writing" "behind" "I", Cond.fieldLink RX5 26 "RingBases$Writing" "lead" "I", Cond.fieldLink RX5 29 "RingBases$Writing" "round" "I", Cond.fieldLink RX5 39 "RingBases$Writing" "restMs" "[J", Cond.fieldLink RX5 45 "RingBases$Writing" "leftM" "J", Cond.fieldLink RX5 42 "RingBases$Writing" "restNs" "[J", Cond.fieldLink RX5 49 "RingBases$Writing" "leftN" "J", Cond.fieldLink RX5 9 "RingBases$Writing" "figures" "[I", Cond.fieldLink RX5 15 "RingBases$Writing" "ahead" "I", Cond.fieldLink RX5 22 "RingBases$Writing" "ends" "Z", Cond.methodLink RX5 100 yX5_isAnythingLeft, Cond.instanceMethod yX5_isAnythingLeft, Cond.selects RX5 yX5_isAnythingLeft yX5_isAnythingLeft, Cond.initialized RX5, Cond.code yX5_isAnythingLeft cX5_isAnythingLeft 1 (some .boolean), Cond.methodLink RX5 104 yX5_lookForRound, Cond.instanceMethod yX5_lookForRound, Cond.selects RX5 yX5_lookForRound yX5_lookForRound, Cond.code yX5_lookForRound cX5_lookForRound 3 none, Cond.methodLink RX5 88 yX0_raisedM, Cond.instanceMethod yX0_raisedM, Cond.selects RX0 yX0_raisedM yX0_raisedM, Cond.initialized RX0, Cond.code yX0_raisedM cX0_raisedM 3 (some .long)]
def wsX5_spellBehind_r2 : List Cond := [Cond.fieldLink RX0 15 "RingBases$Base" "b" "I", Cond.methodLink RX5 92 yX0_raisedN, Cond.instanceMethod yX0_raisedN, Cond.selects RX0 yX0_raisedN yX0_raisedN, Cond.code yX0_raisedN cX0_raisedN 5 (some .long), Cond.fieldLink RX0 9 "RingBases$Base" "a" "I", Cond.methodLink RX5 84 yX5_takeOut, Cond.instanceMethod yX5_takeOut, Cond.selects RX5 yX5_takeOut yX5_takeOut, Cond.code yX5_takeOut cX5_takeOut 7 (some .int), Cond.methodLink RX5 96 yX0_sign, Cond.instanceMethod yX0_sign, Cond.selects RX0 yX0_sign yX0_sign, Cond.code yX0_sign cX0_sign 9 (some .int), Cond.constantLong RX0 20 (2), Cond.methodLink RX0 22 yJ13_compare_74951, Cond.static yJ13_compare_74951, Cond.initialized RJ13, Cond.code yJ13_compare_74951 cJ13_compare_74951 4 (some .int), Cond.methodLink RX0 28 yX0_rootsApartSquared, Cond.instanceMethod yX0_rootsApartSquared, Cond.selects RX0 yX0_rootsApartSquared yX0_rootsApartSquared, Cond.code yX0_rootsApartSquared cX0_rootsApartSquared 1 (some .long), Cond.constantLong RX0 18 (4)]
def wsX5_spellBehind : List Cond := .code yX5_spellBehind cX5_spellBehind 3 none :: ((wsX5_spellBehind_r1 ++ wsX5_spellBehind_r2) ++ wsX50 ++ wsX00)
def wsX5_spell_r1 : List Cond := [Cond.fieldLink RX5 52 "RingBases$Writing" "ofA" "I", Cond.fieldLink RX5 55 "RingBases$Writing" "ofB" "I", Cond.fieldLink RX5 58 "RingBases$Writing" "ofM" "I", Cond.fieldLink RX5 61 "RingBases$Writing" "ofN" "I", Cond.fieldLink RX5 45 "RingBases$Writing" "leftM" "J", Cond.fieldLink RX5 49 "RingBases$Writing" "leftN" "J", Cond.methodLink RX5 72 yX5_highestPlace, Cond.instanceMethod yX5_highestPlace, Cond.selects RX5 yX5_highestPlace yX5_highestPlace, Cond.initialized RX5, Cond.code yX5_highestPlace cX5_highestPlace 7 (some .int), Cond.fieldLink RX5 32 "RingBases$Writing" "powerMs" "[J", Cond.fieldLink RX5 36 "RingBases$Writing" "powerNs" "[J", Cond.methodLink RX5 88 yX0_raisedM, Cond.instanceMethod yX0_raisedM, Cond.selects RX0 yX0_raisedM yX0_raisedM, Cond.initialized RX0, Cond.code yX0_raisedM cX0_raisedM 3 (some .long), Cond.fieldLink RX0 15 "RingBases$Base" "b" "I", Cond.methodLink RX5 92 yX0_raisedN, Cond.instanceMethod yX0_raisedN, Cond.selects RX0 yX0_raisedN yX0_raisedN, Cond.code yX0_raisedN cX0_raisedN 5 (some .long), Cond.fieldLink RX0 9 "RingBases$Base" "a" "I"]
def wsX5_spell_r2 : List Cond := [Cond.methodLink RX5 96 yX0_sign, Cond.instanceMethod yX0_sign, Cond.selects RX0 yX0_sign yX0_sign, Cond.code yX0_sign cX0_sign 9 (some .int), Cond.constantLong RX0 20 (2), Cond.methodLink RX0 22 yJ13_compare_74951, Cond.static yJ13_compare_74951, Cond.initialized RJ13, Cond.code yJ13_compare_74951 cJ13_compare_74951 4 (some .int), Cond.methodLink RX0 28 yX0_rootsApartSquared, Cond.instanceMethod yX0_rootsApartSquared, Cond.selects RX0 yX0_rootsApartSquared yX0_rootsApartSquared, Cond.code yX0_rootsApartSquared cX0_rootsApartSquared 1 (some .long), Cond.constantLong RX0 18 (4), Cond.methodLink RX5 76 yX5_spellAhead, Cond.instanceMethod yX5_spellAhead, Cond.selects RX5 yX5_spellAhead yX5_spellAhead, Cond.code yX5_spellAhead cX5_spellAhead 4 none, Cond.fieldLink RX5 15 "RingBases$Writing" "ahead" "I", Cond.fieldLink RX5 9 "RingBases$Writing" "figures" "[I", Cond.methodLink RX5 84 yX5_takeOut, Cond.instanceMethod yX5_takeOut, Cond.selects RX5 yX5_takeOut yX5_takeOut, Cond.code yX5_takeOut cX5_takeOut 7 (some .int)]
def wsX5_spell_r3 : List Cond := [Cond.methodLink RX5 80 yX5_spellBehind, Cond.instanceMethod yX5_spellBehind, Cond.selects RX5 yX5_spellBehind yX5_spellBehind, Cond.code yX5_spellBehind cX5_spellBehind 3 none, Cond.fieldLink RX5 19 "RingBases$Writing" "behind" "I", Cond.fieldLink RX5 26 "RingBases$Writing" "lead" "I", Cond.fieldLink RX5 29 "RingBases$Writing" "round" "I", Cond.fieldLink RX5 39 "RingBases$Writing" "restMs" "[J", Cond.fieldLink RX5 42 "RingBases$Writing" "restNs" "[J", Cond.fieldLink RX5 22 "RingBases$Writing" "ends" "Z", Cond.methodLink RX5 100 yX5_isAnythingLeft, Cond.instanceMethod yX5_isAnythingLeft, Cond.selects RX5 yX5_isAnythingLeft yX5_isAnythingLeft, Cond.code yX5_isAnythingLeft cX5_isAnythingLeft 1 (some .boolean), Cond.methodLink RX5 104 yX5_lookForRound, Cond.instanceMethod yX5_lookForRound, Cond.selects RX5 yX5_lookForRound yX5_lookForRound, Cond.code yX5_lookForRound cX5_lookForRound 3 none]
def wsX5_spell : List Cond := .code yX5_spell cX5_spell 4 none :: ((wsX5_spell_r1 ++ (wsX5_spell_r2 ++ wsX5_spell_r3)) ++ wsX50 ++ wsX00)
def wsX6_init_r1 : List Cond := [Cond.methodLink RX6 3 objectInit, Cond.instanceMethod objectInit, Cond.code objectInit ⟨#[0xb1]⟩ 1 none, Cond.classLink RX6 9 RX3, Cond.instantiable RX3 3, Cond.initialized RX3, Cond.fieldLink RX6 12 "RingBases" "now" "LRingBases$State;", Cond.classLink RX6 16 RX1, Cond.instantiable RX1 3, Cond.initialized RX1, Cond.fieldLink RX6 19 "RingBases" "history" "LRingBases$History;", Cond.classLink RX6 23 RX2, Cond.instantiable RX2 2, Cond.initialized RX2, Cond.fieldLink RX6 26 "RingBases" "images" "LRingBases$Images;", Cond.classLink RX6 30 RX4, Cond.instantiable RX4 6, Cond.initialized RX4, Cond.fieldLink RX6 33 "RingBases" "word" "LRingBases$Word;", Cond.classLink RX6 37 RX5, Cond.instantiable RX5 16, Cond.initialized RX5, Cond.fieldLink RX6 40 "RingBases" "writing" "LRingBases$Writing;", Cond.instanceMethod yX3_init]
def wsX6_init_r2 : List Cond := [Cond.code yX3_init cX3_init 1 none, Cond.methodLink RX3 3 objectInit, Cond.classLink RX3 9 RX0, Cond.instantiable RX0 2, Cond.initialized RX0, Cond.fieldLink RX3 12 "RingBases$State" "base" "LRingBases$Base;", Cond.arrayClass .int, Cond.fieldLink RX3 18 "RingBases$State" "ms" "[I", Cond.fieldLink RX3 22 "RingBases$State" "ns" "[I", Cond.instanceMethod yX0_init, Cond.code yX0_init cX0_init 1 none, Cond.methodLink RX0 3 objectInit, Cond.fieldLink RX0 9 "RingBases$Base" "a" "I", Cond.fieldLink RX0 15 "RingBases$Base" "b" "I", Cond.instanceMethod yX1_init, Cond.code yX1_init cX1_init 1 none, Cond.methodLink RX1 3 objectInit, Cond.fieldLink RX1 9 "RingBases$History" "cells" "[I", Cond.fieldLink RX1 15 "RingBases$History" "oldest" "I", Cond.fieldLink RX1 19 "RingBases$History" "count" "I", Cond.instanceMethod yX2_init, Cond.code yX2_init cX2_init 1 none, Cond.methodLink RX2 3 objectInit, Cond.fieldLink RX2 9 "RingBases$Images" "cells" "[I"]
def wsX6_init_r3 : List Cond := [Cond.arrayClass .boolean, Cond.fieldLink RX2 15 "RingBases$Images" "kept" "[Z", Cond.instanceMethod yX4_init, Cond.code yX4_init cX4_init 1 none, Cond.methodLink RX4 3 objectInit, Cond.fieldLink RX4 9 "RingBases$Word" "figures" "[I", Cond.fieldLink RX4 15 "RingBases$Word" "follower" "[I", Cond.fieldLink RX4 18 "RingBases$Word" "count" "I", Cond.fieldLink RX4 22 "RingBases$Word" "aheadOfPoint" "I", Cond.fieldLink RX4 25 "RingBases$Word" "worthM" "I", Cond.fieldLink RX4 28 "RingBases$Word" "worthN" "I", Cond.instanceMethod yX5_init, Cond.code yX5_init cX5_init 1 none, Cond.methodLink RX5 3 objectInit, Cond.fieldLink RX5 9 "RingBases$Writing" "figures" "[I", Cond.fieldLink RX5 15 "RingBases$Writing" "ahead" "I", Cond.fieldLink RX5 19 "RingBases$Writing" "behind" "I", Cond.fieldLink RX5 22 "RingBases$Writing" "ends" "Z", Cond.fieldLink RX5 26 "RingBases$Writing" "lead" "I", Cond.fieldLink RX5 29 "RingBases$Writing" "round" "I", Cond.arrayClass .long, Cond.fieldLink RX5 32 "RingBases$Writing" "powerMs" "[J", Cond.fieldLink RX5 36 "RingBases$Writing" "powerNs" "[J", Cond.fieldLink RX5 39 "RingBases$Writing" "restMs" "[J"]
def wsX6_init_r4 : List Cond := [Cond.fieldLink RX5 42 "RingBases$Writing" "restNs" "[J", Cond.fieldLink RX5 45 "RingBases$Writing" "leftM" "J", Cond.fieldLink RX5 49 "RingBases$Writing" "leftN" "J", Cond.fieldLink RX5 52 "RingBases$Writing" "ofA" "I", Cond.fieldLink RX5 55 "RingBases$Writing" "ofB" "I", Cond.fieldLink RX5 58 "RingBases$Writing" "ofM" "I", Cond.fieldLink RX5 61 "RingBases$Writing" "ofN" "I"]
def wsX6_init : List Cond := .code yX6_init cX6_init 1 none :: ((wsX6_init_r1 ++ (wsX6_init_r2 ++ (wsX6_init_r3 ++ wsX6_init_r4))) ++ wsX30 ++ wsX60 ++ wsX10 ++ wsX20 ++ wsX40 ++ wsX50 ++ wsX00)
def wsX6_base_r1 : List Cond := [Cond.constant RX6 50 (-2000000002), Cond.fieldLink RX6 19 "RingBases" "history" "LRingBases$History;", Cond.fieldLink RX6 12 "RingBases" "now" "LRingBases$State;", Cond.methodLink RX6 44 yX0_canBe, Cond.static yX0_canBe, Cond.initialized RX0, Cond.code yX0_canBe cX0_canBe 2 (some .boolean), Cond.methodLink RX6 51 yX1_remember, Cond.instanceMethod yX1_remember, Cond.selects RX1 yX1_remember yX1_remember, Cond.initialized RX1, Cond.code yX1_remember cX1_remember 2 none, Cond.fieldLink RX1 9 "RingBases$History" "cells" "[I", Cond.fieldLink RX1 15 "RingBases$History" "oldest" "I", Cond.fieldLink RX1 19 "RingBases$History" "count" "I", Cond.methodLink RX1 22 yX3_copyInto, Cond.instanceMethod yX3_copyInto, Cond.selects RX3 yX3_copyInto yX3_copyInto, Cond.initialized RX3, Cond.code yX3_copyInto cX3_copyInto 3 none, Cond.fieldLink RX3 12 "RingBases$State" "base" "LRingBases$Base;", Cond.fieldLink RX3 18 "RingBases$State" "ms" "[I", Cond.methodLink RX3 32 arraycopyName, Cond.native arraycopyName]
def wsX6_base_r2 : List Cond := [Cond.static arraycopyName, Cond.initialized "java/lang/System", Cond.fieldLink RX3 22 "RingBases$State" "ns" "[I", Cond.methodLink RX6 59 yX0_become, Cond.instanceMethod yX0_become, Cond.selects RX0 yX0_become yX0_become, Cond.code yX0_become cX0_become 3 none, Cond.fieldLink RX0 9 "RingBases$Base" "a" "I", Cond.fieldLink RX0 15 "RingBases$Base" "b" "I", Cond.methodLink RX6 63 yX0_top, Cond.instanceMethod yX0_top, Cond.selects RX0 yX0_top yX0_top, Cond.code yX0_top cX0_top 1 (some .int)]
def wsX6_base : List Cond := .code yX6_base cX6_base 3 (some .int) :: ((wsX6_base_r1 ++ wsX6_base_r2) ++ wsX60 ++ wsX30 ++ wsX10 ++ wsX00)
def wsX6_isNoShelf : List Cond := .code yX6_isNoShelf cX6_isNoShelf 1 (some .boolean) :: ([])
def wsX6_signOf : List Cond := .code yX6_signOf cX6_signOf 2 (some .int) :: ([.fieldLink RX6 12 "RingBases" "now" "LRingBases$State;", .methodLink RX6 110 yX0_sign, .instanceMethod yX0_sign, .selects RX0 yX0_sign yX0_sign, .initialized RX0, .code yX0_sign cX0_sign 9 (some .int), .constantLong RX0 20 (2), .fieldLink RX0 9 "RingBases$Base" "a" "I", .methodLink RX0 22 yJ13_compare_74951, .static yJ13_compare_74951, .initialized RJ13, .code yJ13_compare_74951 cJ13_compare_74951 4 (some .int), .methodLink RX0 28 yX0_rootsApartSquared, .instanceMethod yX0_rootsApartSquared, .selects RX0 yX0_rootsApartSquared yX0_rootsApartSquared, .code yX0_rootsApartSquared cX0_rootsApartSquared 1 (some .long), .constantLong RX0 18 (4), .fieldLink RX0 15 "RingBases$Base" "b" "I"] ++ wsX60 ++ wsX30 ++ wsX00)
def wsX6_lay_r1 : List Cond := [Cond.constant RX6 142 (-2000000004), Cond.fieldLink RX6 19 "RingBases" "history" "LRingBases$History;", Cond.fieldLink RX6 12 "RingBases" "now" "LRingBases$State;", Cond.methodLink RX6 72 yX6_isOutOfBounds, Cond.static yX6_isOutOfBounds, Cond.initialized RX6, Cond.code yX6_isOutOfBounds cX6_isOutOfBounds 2 (some .boolean), Cond.constantLong RX6 218 (-999999), Cond.constantLong RX6 220 (999999), Cond.methodLink RX6 51 yX1_remember, Cond.instanceMethod yX1_remember, Cond.selects RX1 yX1_remember yX1_remember, Cond.initialized RX1, Cond.code yX1_remember cX1_remember 2 none, Cond.fieldLink RX1 9 "RingBases$History" "cells" "[I", Cond.fieldLink RX1 15 "RingBases$History" "oldest" "I", Cond.fieldLink RX1 19 "RingBases$History" "count" "I", Cond.methodLink RX1 22 yX3_copyInto, Cond.instanceMethod yX3_copyInto, Cond.selects RX3 yX3_copyInto yX3_copyInto, Cond.initialized RX3, Cond.code yX3_copyInto cX3_copyInto 3 none, Cond.fieldLink RX3 12 "RingBases$State" "base" "LRingBases$Base;", Cond.fieldLink RX3 18 "RingBases$State" "ms" "[I"]
def wsX6_lay_r2 : List Cond := [Cond.methodLink RX3 32 arraycopyName, Cond.native arraycopyName, Cond.static arraycopyName, Cond.initialized "java/lang/System", Cond.fieldLink RX3 22 "RingBases$State" "ns" "[I", Cond.methodLink RX6 153 yX6_signOf, Cond.instanceMethod yX6_signOf, Cond.selects RX6 yX6_signOf yX6_signOf, Cond.code yX6_signOf cX6_signOf 2 (some .int), Cond.methodLink RX6 110 yX0_sign, Cond.instanceMethod yX0_sign, Cond.selects RX0 yX0_sign yX0_sign, Cond.initialized RX0, Cond.code yX0_sign cX0_sign 9 (some .int), Cond.constantLong RX0 20 (2), Cond.fieldLink RX0 9 "RingBases$Base" "a" "I", Cond.methodLink RX0 22 yJ13_compare_74951, Cond.static yJ13_compare_74951, Cond.initialized RJ13, Cond.code yJ13_compare_74951 cJ13_compare_74951 4 (some .int), Cond.methodLink RX0 28 yX0_rootsApartSquared, Cond.instanceMethod yX0_rootsApartSquared, Cond.selects RX0 yX0_rootsApartSquared yX0_rootsApartSquared, Cond.code yX0_rootsApartSquared cX0_rootsApartSquared 1 (some .long)]
def wsX6_lay_r3 : List Cond := [Cond.constantLong RX0 18 (4), Cond.fieldLink RX0 15 "RingBases$Base" "b" "I"]
def wsX6_lay : List Cond := .code yX6_lay cX6_lay 6 (some .int) :: ((wsX6_lay_r1 ++ (wsX6_lay_r2 ++ wsX6_lay_r3)) ++ wsX60 ++ wsX30 ++ wsX10 ++ wsX00)
def wsX6_put_r1 : List Cond := [Cond.constant RX6 71 (-2000000001), Cond.constant RX6 50 (-2000000002), Cond.methodLink RX6 67 yX6_isNoShelf, Cond.static yX6_isNoShelf, Cond.initialized RX6, Cond.code yX6_isNoShelf cX6_isNoShelf 1 (some .boolean), Cond.methodLink RX6 72 yX6_isOutOfBounds, Cond.static yX6_isOutOfBounds, Cond.code yX6_isOutOfBounds cX6_isOutOfBounds 2 (some .boolean), Cond.constantLong RX6 218 (-999999), Cond.constantLong RX6 220 (999999), Cond.methodLink RX6 76 yX6_lay, Cond.instanceMethod yX6_lay, Cond.selects RX6 yX6_lay yX6_lay, Cond.code yX6_lay cX6_lay 6 (some .int), Cond.constant RX6 142 (-2000000004), Cond.fieldLink RX6 19 "RingBases" "history" "LRingBases$History;", Cond.fieldLink RX6 12 "RingBases" "now" "LRingBases$State;", Cond.methodLink RX6 51 yX1_remember, Cond.instanceMethod yX1_remember, Cond.selects RX1 yX1_remember yX1_remember, Cond.initialized RX1, Cond.code yX1_remember cX1_remember 2 none, Cond.fieldLink RX1 9 "RingBases$History" "cells" "[I"]
def wsX6_put_r2 : List Cond := [Cond.fieldLink RX1 15 "RingBases$History" "oldest" "I", Cond.fieldLink RX1 19 "RingBases$History" "count" "I", Cond.methodLink RX1 22 yX3_copyInto, Cond.instanceMethod yX3_copyInto, Cond.selects RX3 yX3_copyInto yX3_copyInto, Cond.initialized RX3, Cond.code yX3_copyInto cX3_copyInto 3 none, Cond.fieldLink RX3 12 "RingBases$State" "base" "LRingBases$Base;", Cond.fieldLink RX3 18 "RingBases$State" "ms" "[I", Cond.methodLink RX3 32 arraycopyName, Cond.native arraycopyName, Cond.static arraycopyName, Cond.initialized "java/lang/System", Cond.fieldLink RX3 22 "RingBases$State" "ns" "[I", Cond.methodLink RX6 153 yX6_signOf, Cond.instanceMethod yX6_signOf, Cond.selects RX6 yX6_signOf yX6_signOf, Cond.code yX6_signOf cX6_signOf 2 (some .int), Cond.methodLink RX6 110 yX0_sign, Cond.instanceMethod yX0_sign, Cond.selects RX0 yX0_sign yX0_sign, Cond.initialized RX0, Cond.code yX0_sign cX0_sign 9 (some .int), Cond.constantLong RX0 20 (2)]
def wsX6_put_r3 : List Cond := [Cond.fieldLink RX0 9 "RingBases$Base" "a" "I", Cond.methodLink RX0 22 yJ13_compare_74951, Cond.static yJ13_compare_74951, Cond.initialized RJ13, Cond.code yJ13_compare_74951 cJ13_compare_74951 4 (some .int), Cond.methodLink RX0 28 yX0_rootsApartSquared, Cond.instanceMethod yX0_rootsApartSquared, Cond.selects RX0 yX0_rootsApartSquared yX0_rootsApartSquared, Cond.code yX0_rootsApartSquared cX0_rootsApartSquared 1 (some .long), Cond.constantLong RX0 18 (4), Cond.fieldLink RX0 15 "RingBases$Base" "b" "I"]
def wsX6_put : List Cond := .code yX6_put cX6_put 4 (some .int) :: ((wsX6_put_r1 ++ (wsX6_put_r2 ++ wsX6_put_r3)) ++ wsX60 ++ wsX30 ++ wsX10 ++ wsX00)
def wsX6_deed_r1 : List Cond := [Cond.constant RX6 71 (-2000000001), Cond.fieldLink RX6 12 "RingBases" "now" "LRingBases$State;", Cond.constant RX6 50 (-2000000002), Cond.methodLink RX6 67 yX6_isNoShelf, Cond.static yX6_isNoShelf, Cond.initialized RX6, Cond.code yX6_isNoShelf cX6_isNoShelf 1 (some .boolean), Cond.methodLink RX6 76 yX6_lay, Cond.instanceMethod yX6_lay, Cond.selects RX6 yX6_lay yX6_lay, Cond.code yX6_lay cX6_lay 6 (some .int), Cond.constant RX6 142 (-2000000004), Cond.fieldLink RX6 19 "RingBases" "history" "LRingBases$History;", Cond.methodLink RX6 72 yX6_isOutOfBounds, Cond.static yX6_isOutOfBounds, Cond.code yX6_isOutOfBounds cX6_isOutOfBounds 2 (some .boolean), Cond.constantLong RX6 218 (-999999), Cond.constantLong RX6 220 (999999), Cond.methodLink RX6 51 yX1_remember, Cond.instanceMethod yX1_remember, Cond.selects RX1 yX1_remember yX1_remember, Cond.initialized RX1, Cond.code yX1_remember cX1_remember 2 none, Cond.fieldLink RX1 9 "RingBases$History" "cells" "[I"]
def wsX6_deed_r2 : List Cond := [Cond.fieldLink RX1 15 "RingBases$History" "oldest" "I", Cond.fieldLink RX1 19 "RingBases$History" "count" "I", Cond.methodLink RX1 22 yX3_copyInto, Cond.instanceMethod yX3_copyInto, Cond.selects RX3 yX3_copyInto yX3_copyInto, Cond.initialized RX3, Cond.code yX3_copyInto cX3_copyInto 3 none, Cond.fieldLink RX3 12 "RingBases$State" "base" "LRingBases$Base;", Cond.fieldLink RX3 18 "RingBases$State" "ms" "[I", Cond.methodLink RX3 32 arraycopyName, Cond.native arraycopyName, Cond.static arraycopyName, Cond.initialized "java/lang/System", Cond.fieldLink RX3 22 "RingBases$State" "ns" "[I", Cond.methodLink RX6 153 yX6_signOf, Cond.instanceMethod yX6_signOf, Cond.selects RX6 yX6_signOf yX6_signOf, Cond.code yX6_signOf cX6_signOf 2 (some .int), Cond.methodLink RX6 110 yX0_sign, Cond.instanceMethod yX0_sign, Cond.selects RX0 yX0_sign yX0_sign, Cond.initialized RX0, Cond.code yX0_sign cX0_sign 9 (some .int), Cond.constantLong RX0 20 (2)]
def wsX6_deed_r3 : List Cond := [Cond.fieldLink RX0 9 "RingBases$Base" "a" "I", Cond.methodLink RX0 22 yJ13_compare_74951, Cond.static yJ13_compare_74951, Cond.initialized RJ13, Cond.code yJ13_compare_74951 cJ13_compare_74951 4 (some .int), Cond.methodLink RX0 28 yX0_rootsApartSquared, Cond.instanceMethod yX0_rootsApartSquared, Cond.selects RX0 yX0_rootsApartSquared yX0_rootsApartSquared, Cond.code yX0_rootsApartSquared cX0_rootsApartSquared 1 (some .long), Cond.constantLong RX0 18 (4), Cond.fieldLink RX0 15 "RingBases$Base" "b" "I", Cond.methodLink RX6 94 yX0_raisedM, Cond.instanceMethod yX0_raisedM, Cond.selects RX0 yX0_raisedM yX0_raisedM, Cond.code yX0_raisedM cX0_raisedM 3 (some .long), Cond.methodLink RX6 98 yX0_raisedN, Cond.instanceMethod yX0_raisedN, Cond.selects RX0 yX0_raisedN yX0_raisedN, Cond.code yX0_raisedN cX0_raisedN 5 (some .long)]
def wsX6_deed : List Cond := .code yX6_deed cX6_deed 13 (some .int) :: ((wsX6_deed_r1 ++ (wsX6_deed_r2 ++ wsX6_deed_r3)) ++ wsX60 ++ wsX30 ++ wsX00 ++ wsX10)
def wsX6_lot : List Cond := .code yX6_lot cX6_lot 2 (some .long) :: ([.constantLong RX6 222 (16807), .constantLong RX6 224 (2147483647)])
def wsX6_drift_r1 : List Cond := [Cond.constant RX6 71 (-2000000001), Cond.constant RX6 102 (999999), Cond.constant RX6 50 (-2000000002), Cond.constantLong RX6 106 (2001), Cond.constantLong RX6 108 (1000), Cond.fieldLink RX6 12 "RingBases" "now" "LRingBases$State;", Cond.methodLink RX6 67 yX6_isNoShelf, Cond.static yX6_isNoShelf, Cond.initialized RX6, Cond.code yX6_isNoShelf cX6_isNoShelf 1 (some .boolean), Cond.methodLink RX6 103 yX6_lot, Cond.static yX6_lot, Cond.code yX6_lot cX6_lot 2 (some .long), Cond.constantLong RX6 222 (16807), Cond.constantLong RX6 224 (2147483647), Cond.methodLink RX6 110 yX0_sign, Cond.instanceMethod yX0_sign, Cond.selects RX0 yX0_sign yX0_sign, Cond.initialized RX0, Cond.code yX0_sign cX0_sign 9 (some .int), Cond.constantLong RX0 20 (2), Cond.fieldLink RX0 9 "RingBases$Base" "a" "I", Cond.methodLink RX0 22 yJ13_compare_74951, Cond.static yJ13_compare_74951]
def wsX6_drift_r2 : List Cond := [Cond.initialized RJ13, Cond.code yJ13_compare_74951 cJ13_compare_74951 4 (some .int), Cond.methodLink RX0 28 yX0_rootsApartSquared, Cond.instanceMethod yX0_rootsApartSquared, Cond.selects RX0 yX0_rootsApartSquared yX0_rootsApartSquared, Cond.code yX0_rootsApartSquared cX0_rootsApartSquared 1 (some .long), Cond.constantLong RX0 18 (4), Cond.fieldLink RX0 15 "RingBases$Base" "b" "I", Cond.methodLink RX6 76 yX6_lay, Cond.instanceMethod yX6_lay, Cond.selects RX6 yX6_lay yX6_lay, Cond.code yX6_lay cX6_lay 6 (some .int), Cond.constant RX6 142 (-2000000004), Cond.fieldLink RX6 19 "RingBases" "history" "LRingBases$History;", Cond.methodLink RX6 72 yX6_isOutOfBounds, Cond.static yX6_isOutOfBounds, Cond.code yX6_isOutOfBounds cX6_isOutOfBounds 2 (some .boolean), Cond.constantLong RX6 218 (-999999), Cond.constantLong RX6 220 (999999), Cond.methodLink RX6 51 yX1_remember, Cond.instanceMethod yX1_remember, Cond.selects RX1 yX1_remember yX1_remember, Cond.initialized RX1, Cond.code yX1_remember cX1_remember 2 none]
def wsX6_drift_r3 : List Cond := [Cond.fieldLink RX1 9 "RingBases$History" "cells" "[I", Cond.fieldLink RX1 15 "RingBases$History" "oldest" "I", Cond.fieldLink RX1 19 "RingBases$History" "count" "I", Cond.methodLink RX1 22 yX3_copyInto, Cond.instanceMethod yX3_copyInto, Cond.selects RX3 yX3_copyInto yX3_copyInto, Cond.initialized RX3, Cond.code yX3_copyInto cX3_copyInto 3 none, Cond.fieldLink RX3 12 "RingBases$State" "base" "LRingBases$Base;", Cond.fieldLink RX3 18 "RingBases$State" "ms" "[I", Cond.methodLink RX3 32 arraycopyName, Cond.native arraycopyName, Cond.static arraycopyName, Cond.initialized "java/lang/System", Cond.fieldLink RX3 22 "RingBases$State" "ns" "[I", Cond.methodLink RX6 153 yX6_signOf, Cond.instanceMethod yX6_signOf, Cond.selects RX6 yX6_signOf yX6_signOf, Cond.code yX6_signOf cX6_signOf 2 (some .int)]
def wsX6_drift : List Cond := .code yX6_drift cX6_drift 9 (some .int) :: ((wsX6_drift_r1 ++ (wsX6_drift_r2 ++ wsX6_drift_r3)) ++ wsX60 ++ wsX30 ++ wsX00 ++ wsX10)
def wsX6_undo_r1 : List Cond := [Cond.fieldLink RX6 19 "RingBases" "history" "LRingBases$History;", Cond.constant RX6 117 (-2000000003), Cond.fieldLink RX6 12 "RingBases" "now" "LRingBases$State;", Cond.methodLink RX6 118 yX1_takeBack, Cond.instanceMethod yX1_takeBack, Cond.selects RX1 yX1_takeBack yX1_takeBack, Cond.initialized RX1, Cond.code yX1_takeBack cX1_takeBack 2 none, Cond.fieldLink RX1 19 "RingBases$History" "count" "I", Cond.fieldLink RX1 9 "RingBases$History" "cells" "[I", Cond.fieldLink RX1 15 "RingBases$History" "oldest" "I", Cond.methodLink RX1 28 yX3_copyFrom, Cond.instanceMethod yX3_copyFrom, Cond.selects RX3 yX3_copyFrom yX3_copyFrom, Cond.initialized RX3, Cond.code yX3_copyFrom cX3_copyFrom 3 none, Cond.fieldLink RX3 12 "RingBases$State" "base" "LRingBases$Base;", Cond.fieldLink RX3 18 "RingBases$State" "ms" "[I", Cond.methodLink RX3 32 arraycopyName, Cond.native arraycopyName, Cond.static arraycopyName, Cond.initialized "java/lang/System", Cond.fieldLink RX3 22 "RingBases$State" "ns" "[I", Cond.methodLink RX3 38 yX0_become]
def wsX6_undo_r2 : List Cond := [Cond.instanceMethod yX0_become, Cond.selects RX0 yX0_become yX0_become, Cond.initialized RX0, Cond.code yX0_become cX0_become 3 none, Cond.fieldLink RX0 9 "RingBases$Base" "a" "I", Cond.fieldLink RX0 15 "RingBases$Base" "b" "I"]
def wsX6_undo : List Cond := .code yX6_undo cX6_undo 1 (some .int) :: ((wsX6_undo_r1 ++ wsX6_undo_r2) ++ wsX60 ++ wsX10 ++ wsX30 ++ wsX00)
def wsX6_spellWord_r1 : List Cond := [Cond.fieldLink RX6 33 "RingBases" "word" "LRingBases$Word;", Cond.fieldLink RX6 12 "RingBases" "now" "LRingBases$State;", Cond.fieldLink RX6 40 "RingBases" "writing" "LRingBases$Writing;", Cond.methodLink RX6 134 yX4_reckon, Cond.instanceMethod yX4_reckon, Cond.selects RX4 yX4_reckon yX4_reckon, Cond.initialized RX4, Cond.code yX4_reckon cX4_reckon 9 (some .boolean), Cond.fieldLink RX4 18 "RingBases$Word" "count" "I", Cond.fieldLink RX4 9 "RingBases$Word" "figures" "[I", Cond.fieldLink RX4 25 "RingBases$Word" "worthM" "I", Cond.fieldLink RX4 28 "RingBases$Word" "worthN" "I", Cond.methodLink RX4 55 yX0_raisedN, Cond.instanceMethod yX0_raisedN, Cond.selects RX0 yX0_raisedN yX0_raisedN, Cond.initialized RX0, Cond.code yX0_raisedN cX0_raisedN 5 (some .long), Cond.fieldLink RX0 9 "RingBases$Base" "a" "I", Cond.methodLink RX4 61 yX0_raisedM, Cond.instanceMethod yX0_raisedM, Cond.selects RX0 yX0_raisedM yX0_raisedM, Cond.code yX0_raisedM cX0_raisedM 3 (some .long), Cond.fieldLink RX0 15 "RingBases$Base" "b" "I", Cond.static yX6_isOutOfBounds]
def wsX6_spellWord_r2 : List Cond := [Cond.initialized RX6, Cond.code yX6_isOutOfBounds cX6_isOutOfBounds 2 (some .boolean), Cond.constantLong RX6 218 (-999999), Cond.constantLong RX6 220 (999999), Cond.methodLink RX6 226 yX5_spell, Cond.instanceMethod yX5_spell, Cond.selects RX5 yX5_spell yX5_spell, Cond.initialized RX5, Cond.code yX5_spell cX5_spell 4 none, Cond.fieldLink RX5 52 "RingBases$Writing" "ofA" "I", Cond.fieldLink RX5 55 "RingBases$Writing" "ofB" "I", Cond.fieldLink RX5 58 "RingBases$Writing" "ofM" "I", Cond.fieldLink RX5 61 "RingBases$Writing" "ofN" "I", Cond.fieldLink RX5 45 "RingBases$Writing" "leftM" "J", Cond.fieldLink RX5 49 "RingBases$Writing" "leftN" "J", Cond.methodLink RX5 72 yX5_highestPlace, Cond.instanceMethod yX5_highestPlace, Cond.selects RX5 yX5_highestPlace yX5_highestPlace, Cond.code yX5_highestPlace cX5_highestPlace 7 (some .int), Cond.fieldLink RX5 32 "RingBases$Writing" "powerMs" "[J", Cond.fieldLink RX5 36 "RingBases$Writing" "powerNs" "[J", Cond.methodLink RX5 88 yX0_raisedM, Cond.methodLink RX5 92 yX0_raisedN, Cond.methodLink RX5 96 yX0_sign]
def wsX6_spellWord_r3 : List Cond := [Cond.instanceMethod yX0_sign, Cond.selects RX0 yX0_sign yX0_sign, Cond.code yX0_sign cX0_sign 9 (some .int), Cond.constantLong RX0 20 (2), Cond.methodLink RX0 22 yJ13_compare_74951, Cond.static yJ13_compare_74951, Cond.initialized RJ13, Cond.code yJ13_compare_74951 cJ13_compare_74951 4 (some .int), Cond.methodLink RX0 28 yX0_rootsApartSquared, Cond.instanceMethod yX0_rootsApartSquared, Cond.selects RX0 yX0_rootsApartSquared yX0_rootsApartSquared, Cond.code yX0_rootsApartSquared cX0_rootsApartSquared 1 (some .long), Cond.constantLong RX0 18 (4), Cond.methodLink RX5 76 yX5_spellAhead, Cond.instanceMethod yX5_spellAhead, Cond.selects RX5 yX5_spellAhead yX5_spellAhead, Cond.code yX5_spellAhead cX5_spellAhead 4 none, Cond.fieldLink RX5 15 "RingBases$Writing" "ahead" "I", Cond.fieldLink RX5 9 "RingBases$Writing" "figures" "[I", Cond.methodLink RX5 84 yX5_takeOut, Cond.instanceMethod yX5_takeOut, Cond.selects RX5 yX5_takeOut yX5_takeOut, Cond.code yX5_takeOut cX5_takeOut 7 (some .int), Cond.methodLink RX5 80 yX5_spellBehind]
def wsX6_spellWord_r4 : List Cond := [Cond.instanceMethod yX5_spellBehind, Cond.selects RX5 yX5_spellBehind yX5_spellBehind, Cond.code yX5_spellBehind cX5_spellBehind 3 none, Cond.fieldLink RX5 19 "RingBases$Writing" "behind" "I", Cond.fieldLink RX5 26 "RingBases$Writing" "lead" "I", Cond.fieldLink RX5 29 "RingBases$Writing" "round" "I", Cond.fieldLink RX5 39 "RingBases$Writing" "restMs" "[J", Cond.fieldLink RX5 42 "RingBases$Writing" "restNs" "[J", Cond.fieldLink RX5 22 "RingBases$Writing" "ends" "Z", Cond.methodLink RX5 100 yX5_isAnythingLeft, Cond.instanceMethod yX5_isAnythingLeft, Cond.selects RX5 yX5_isAnythingLeft yX5_isAnythingLeft, Cond.code yX5_isAnythingLeft cX5_isAnythingLeft 1 (some .boolean), Cond.methodLink RX5 104 yX5_lookForRound, Cond.instanceMethod yX5_lookForRound, Cond.selects RX5 yX5_lookForRound yX5_lookForRound, Cond.code yX5_lookForRound cX5_lookForRound 3 none]
def wsX6_spellWord : List Cond := .code yX6_spellWord cX6_spellWord 1 (some .boolean) :: ((wsX6_spellWord_r1 ++ (wsX6_spellWord_r2 ++ (wsX6_spellWord_r3 ++ wsX6_spellWord_r4))) ++ wsX60 ++ wsX30 ++ wsX40 ++ wsX00 ++ wsX50)
def wsX6_told_r1 : List Cond := [Cond.fieldLink RX6 12 "RingBases" "now" "LRingBases$State;", Cond.fieldLink RX6 33 "RingBases" "word" "LRingBases$Word;", Cond.constant RX6 141 (1000000), Cond.constant RX6 142 (-2000000004), Cond.fieldLink RX6 40 "RingBases" "writing" "LRingBases$Writing;", Cond.fieldLink RX6 19 "RingBases" "history" "LRingBases$History;", Cond.constant RX6 50 (-2000000002), Cond.methodLink RX6 63 yX0_top, Cond.instanceMethod yX0_top, Cond.selects RX0 yX0_top yX0_top, Cond.initialized RX0, Cond.code yX0_top cX0_top 1 (some .int), Cond.fieldLink RX0 15 "RingBases$Base" "b" "I", Cond.fieldLink RX0 9 "RingBases$Base" "a" "I", Cond.methodLink RX6 121 yX0_wholePart, Cond.instanceMethod yX0_wholePart, Cond.selects RX0 yX0_wholePart yX0_wholePart, Cond.code yX0_wholePart cX0_wholePart 9 (some .long), Cond.methodLink RX0 32 Lib.MathLoose.abs_long.x, Cond.static Lib.MathLoose.abs_long.x, Cond.initialized "java/lang/Math", Cond.code Lib.MathLoose.abs_long.x Lib.MathLoose.abs_long.code 2 (some .long), Cond.constantLong RX0 20 (2), Cond.methodLink RX0 28 yX0_rootsApartSquared]
def wsX6_told_r2 : List Cond := [Cond.instanceMethod yX0_rootsApartSquared, Cond.selects RX0 yX0_rootsApartSquared yX0_rootsApartSquared, Cond.code yX0_rootsApartSquared cX0_rootsApartSquared 1 (some .long), Cond.constantLong RX0 18 (4), Cond.methodLink RX0 38 yX0_squareRoot, Cond.static yX0_squareRoot, Cond.code yX0_squareRoot cX0_squareRoot 8 (some .long), Cond.constantLong RX0 41 (1073741824), Cond.methodLink RX6 124 yX4_signs, Cond.instanceMethod yX4_signs, Cond.selects RX4 yX4_signs yX4_signs, Cond.initialized RX4, Cond.code yX4_signs cX4_signs 1 (some .int), Cond.fieldLink RX4 18 "RingBases$Word" "count" "I", Cond.methodLink RX4 31 yX4_hasPoint, Cond.instanceMethod yX4_hasPoint, Cond.selects RX4 yX4_hasPoint yX4_hasPoint, Cond.code yX4_hasPoint cX4_hasPoint 1 (some .boolean), Cond.fieldLink RX4 22 "RingBases$Word" "aheadOfPoint" "I", Cond.methodLink RX6 127 yX4_badly, Cond.instanceMethod yX4_badly, Cond.selects RX4 yX4_badly yX4_badly, Cond.code yX4_badly cX4_badly 3 (some .int), Cond.fieldLink RX4 9 "RingBases$Word" "figures" "[I"]
def wsX6_told_r3 : List Cond := [Cond.methodLink RX4 69 yX4_firstBad, Cond.static yX4_firstBad, Cond.code yX4_firstBad cX4_firstBad 4 (some .int), Cond.methodLink RX4 73 yX4_isLessThanOne, Cond.static yX4_isLessThanOne, Cond.code yX4_isLessThanOne cX4_isLessThanOne 6 (some .boolean), Cond.methodLink RX4 77 yX0_figureOfOne, Cond.instanceMethod yX0_figureOfOne, Cond.selects RX0 yX0_figureOfOne yX0_figureOfOne, Cond.code yX0_figureOfOne cX0_figureOfOne 2 (some .int), Cond.methodLink RX6 131 yX4_shift, Cond.instanceMethod yX4_shift, Cond.selects RX4 yX4_shift yX4_shift, Cond.code yX4_shift cX4_shift 1 (some .int), Cond.methodLink RX6 134 yX4_reckon, Cond.instanceMethod yX4_reckon, Cond.selects RX4 yX4_reckon yX4_reckon, Cond.code yX4_reckon cX4_reckon 9 (some .boolean), Cond.fieldLink RX4 25 "RingBases$Word" "worthM" "I", Cond.fieldLink RX4 28 "RingBases$Word" "worthN" "I", Cond.methodLink RX4 55 yX0_raisedN, Cond.instanceMethod yX0_raisedN, Cond.selects RX0 yX0_raisedN yX0_raisedN, Cond.code yX0_raisedN cX0_raisedN 5 (some .long)]
def wsX6_told_r4 : List Cond := [Cond.methodLink RX4 61 yX0_raisedM, Cond.instanceMethod yX0_raisedM, Cond.selects RX0 yX0_raisedM yX0_raisedM, Cond.code yX0_raisedM cX0_raisedM 3 (some .long), Cond.static yX6_isOutOfBounds, Cond.initialized RX6, Cond.code yX6_isOutOfBounds cX6_isOutOfBounds 2 (some .boolean), Cond.constantLong RX6 218 (-999999), Cond.constantLong RX6 220 (999999), Cond.methodLink RX6 146 yX6_spellWord, Cond.instanceMethod yX6_spellWord, Cond.selects RX6 yX6_spellWord yX6_spellWord, Cond.code yX6_spellWord cX6_spellWord 1 (some .boolean), Cond.methodLink RX6 226 yX5_spell, Cond.instanceMethod yX5_spell, Cond.selects RX5 yX5_spell yX5_spell, Cond.initialized RX5, Cond.code yX5_spell cX5_spell 4 none, Cond.fieldLink RX5 52 "RingBases$Writing" "ofA" "I", Cond.fieldLink RX5 55 "RingBases$Writing" "ofB" "I", Cond.fieldLink RX5 58 "RingBases$Writing" "ofM" "I", Cond.fieldLink RX5 61 "RingBases$Writing" "ofN" "I", Cond.fieldLink RX5 45 "RingBases$Writing" "leftM" "J", Cond.fieldLink RX5 49 "RingBases$Writing" "leftN" "J"]
def wsX6_told_r5 : List Cond := [Cond.methodLink RX5 72 yX5_highestPlace, Cond.instanceMethod yX5_highestPlace, Cond.selects RX5 yX5_highestPlace yX5_highestPlace, Cond.code yX5_highestPlace cX5_highestPlace 7 (some .int), Cond.fieldLink RX5 32 "RingBases$Writing" "powerMs" "[J", Cond.fieldLink RX5 36 "RingBases$Writing" "powerNs" "[J", Cond.methodLink RX5 88 yX0_raisedM, Cond.methodLink RX5 92 yX0_raisedN, Cond.methodLink RX5 96 yX0_sign, Cond.instanceMethod yX0_sign, Cond.selects RX0 yX0_sign yX0_sign, Cond.code yX0_sign cX0_sign 9 (some .int), Cond.methodLink RX0 22 yJ13_compare_74951, Cond.static yJ13_compare_74951, Cond.initialized RJ13, Cond.code yJ13_compare_74951 cJ13_compare_74951 4 (some .int), Cond.methodLink RX5 76 yX5_spellAhead, Cond.instanceMethod yX5_spellAhead, Cond.selects RX5 yX5_spellAhead yX5_spellAhead, Cond.code yX5_spellAhead cX5_spellAhead 4 none, Cond.fieldLink RX5 15 "RingBases$Writing" "ahead" "I", Cond.fieldLink RX5 9 "RingBases$Writing" "figures" "[I", Cond.methodLink RX5 84 yX5_takeOut, Cond.instanceMethod yX5_takeOut]
def wsX6_told_r6 : List Cond := [Cond.selects RX5 yX5_takeOut yX5_takeOut, Cond.code yX5_takeOut cX5_takeOut 7 (some .int), Cond.methodLink RX5 80 yX5_spellBehind, Cond.instanceMethod yX5_spellBehind, Cond.selects RX5 yX5_spellBehind yX5_spellBehind, Cond.code yX5_spellBehind cX5_spellBehind 3 none, Cond.fieldLink RX5 19 "RingBases$Writing" "behind" "I", Cond.fieldLink RX5 26 "RingBases$Writing" "lead" "I", Cond.fieldLink RX5 29 "RingBases$Writing" "round" "I", Cond.fieldLink RX5 39 "RingBases$Writing" "restMs" "[J", Cond.fieldLink RX5 42 "RingBases$Writing" "restNs" "[J", Cond.fieldLink RX5 22 "RingBases$Writing" "ends" "Z", Cond.methodLink RX5 100 yX5_isAnythingLeft, Cond.instanceMethod yX5_isAnythingLeft, Cond.selects RX5 yX5_isAnythingLeft yX5_isAnythingLeft, Cond.code yX5_isAnythingLeft cX5_isAnythingLeft 1 (some .boolean), Cond.methodLink RX5 104 yX5_lookForRound, Cond.instanceMethod yX5_lookForRound, Cond.selects RX5 yX5_lookForRound yX5_lookForRound, Cond.code yX5_lookForRound cX5_lookForRound 3 none, Cond.methodLink RX6 150 yX5_figureCount, Cond.instanceMethod yX5_figureCount, Cond.selects RX5 yX5_figureCount yX5_figureCount, Cond.code yX5_figureCount cX5_figureCount 1 (some .int)]
def wsX6_told : List Cond := .code yX6_told cX6_told 2 (some .int) :: ((wsX6_told_r1 ++ (wsX6_told_r2 ++ (wsX6_told_r3 ++ (wsX6_told_r4 ++ (wsX6_told_r5 ++ wsX6_told_r6))))) ++ wsX60 ++ wsX30 ++ wsX00 ++ wsX40 ++ wsX10 ++ wsX50)
def wsX6_spellShelf_r1 : List Cond := [Cond.fieldLink RX6 40 "RingBases" "writing" "LRingBases$Writing;", Cond.fieldLink RX6 12 "RingBases" "now" "LRingBases$State;", Cond.methodLink RX6 153 yX6_signOf, Cond.instanceMethod yX6_signOf, Cond.selects RX6 yX6_signOf yX6_signOf, Cond.initialized RX6, Cond.code yX6_signOf cX6_signOf 2 (some .int), Cond.methodLink RX6 110 yX0_sign, Cond.instanceMethod yX0_sign, Cond.selects RX0 yX0_sign yX0_sign, Cond.initialized RX0, Cond.code yX0_sign cX0_sign 9 (some .int), Cond.constantLong RX0 20 (2), Cond.fieldLink RX0 9 "RingBases$Base" "a" "I", Cond.methodLink RX0 22 yJ13_compare_74951, Cond.static yJ13_compare_74951, Cond.initialized RJ13, Cond.code yJ13_compare_74951 cJ13_compare_74951 4 (some .int), Cond.methodLink RX0 28 yX0_rootsApartSquared, Cond.instanceMethod yX0_rootsApartSquared, Cond.selects RX0 yX0_rootsApartSquared yX0_rootsApartSquared, Cond.code yX0_rootsApartSquared cX0_rootsApartSquared 1 (some .long), Cond.constantLong RX0 18 (4), Cond.fieldLink RX0 15 "RingBases$Base" "b" "I"]
def wsX6_spellShelf_r2 : List Cond := [Cond.methodLink RX6 226 yX5_spell, Cond.instanceMethod yX5_spell, Cond.selects RX5 yX5_spell yX5_spell, Cond.initialized RX5, Cond.code yX5_spell cX5_spell 4 none, Cond.fieldLink RX5 52 "RingBases$Writing" "ofA" "I", Cond.fieldLink RX5 55 "RingBases$Writing" "ofB" "I", Cond.fieldLink RX5 58 "RingBases$Writing" "ofM" "I", Cond.fieldLink RX5 61 "RingBases$Writing" "ofN" "I", Cond.fieldLink RX5 45 "RingBases$Writing" "leftM" "J", Cond.fieldLink RX5 49 "RingBases$Writing" "leftN" "J", Cond.methodLink RX5 72 yX5_highestPlace, Cond.instanceMethod yX5_highestPlace, Cond.selects RX5 yX5_highestPlace yX5_highestPlace, Cond.code yX5_highestPlace cX5_highestPlace 7 (some .int), Cond.fieldLink RX5 32 "RingBases$Writing" "powerMs" "[J", Cond.fieldLink RX5 36 "RingBases$Writing" "powerNs" "[J", Cond.methodLink RX5 88 yX0_raisedM, Cond.instanceMethod yX0_raisedM, Cond.selects RX0 yX0_raisedM yX0_raisedM, Cond.code yX0_raisedM cX0_raisedM 3 (some .long), Cond.methodLink RX5 92 yX0_raisedN, Cond.instanceMethod yX0_raisedN, Cond.selects RX0 yX0_raisedN yX0_raisedN]
def wsX6_spellShelf_r3 : List Cond := [Cond.code yX0_raisedN cX0_raisedN 5 (some .long), Cond.methodLink RX5 96 yX0_sign, Cond.methodLink RX5 76 yX5_spellAhead, Cond.instanceMethod yX5_spellAhead, Cond.selects RX5 yX5_spellAhead yX5_spellAhead, Cond.code yX5_spellAhead cX5_spellAhead 4 none, Cond.fieldLink RX5 15 "RingBases$Writing" "ahead" "I", Cond.fieldLink RX5 9 "RingBases$Writing" "figures" "[I", Cond.methodLink RX5 84 yX5_takeOut, Cond.instanceMethod yX5_takeOut, Cond.selects RX5 yX5_takeOut yX5_takeOut, Cond.code yX5_takeOut cX5_takeOut 7 (some .int), Cond.methodLink RX5 80 yX5_spellBehind, Cond.instanceMethod yX5_spellBehind, Cond.selects RX5 yX5_spellBehind yX5_spellBehind, Cond.code yX5_spellBehind cX5_spellBehind 3 none, Cond.fieldLink RX5 19 "RingBases$Writing" "behind" "I", Cond.fieldLink RX5 26 "RingBases$Writing" "lead" "I", Cond.fieldLink RX5 29 "RingBases$Writing" "round" "I", Cond.fieldLink RX5 39 "RingBases$Writing" "restMs" "[J", Cond.fieldLink RX5 42 "RingBases$Writing" "restNs" "[J", Cond.fieldLink RX5 22 "RingBases$Writing" "ends" "Z", Cond.methodLink RX5 100 yX5_isAnythingLeft, Cond.instanceMethod yX5_isAnythingLeft]
def wsX6_spellShelf_r4 : List Cond := [Cond.selects RX5 yX5_isAnythingLeft yX5_isAnythingLeft, Cond.code yX5_isAnythingLeft cX5_isAnythingLeft 1 (some .boolean), Cond.methodLink RX5 104 yX5_lookForRound, Cond.instanceMethod yX5_lookForRound, Cond.selects RX5 yX5_lookForRound yX5_lookForRound, Cond.code yX5_lookForRound cX5_lookForRound 3 none]
def wsX6_spellShelf : List Cond := .code yX6_spellShelf cX6_spellShelf 2 (some .boolean) :: ((wsX6_spellShelf_r1 ++ (wsX6_spellShelf_r2 ++ (wsX6_spellShelf_r3 ++ wsX6_spellShelf_r4))) ++ wsX60 ++ wsX30 ++ wsX00 ++ wsX50)
def wsX6_shelf_r1 : List Cond := [Cond.constant RX6 71 (-2000000001), Cond.fieldLink RX6 12 "RingBases" "now" "LRingBases$State;", Cond.fieldLink RX6 40 "RingBases" "writing" "LRingBases$Writing;", Cond.constant RX6 117 (-2000000003), Cond.constant RX6 50 (-2000000002), Cond.methodLink RX6 67 yX6_isNoShelf, Cond.static yX6_isNoShelf, Cond.initialized RX6, Cond.code yX6_isNoShelf cX6_isNoShelf 1 (some .boolean), Cond.methodLink RX6 153 yX6_signOf, Cond.instanceMethod yX6_signOf, Cond.selects RX6 yX6_signOf yX6_signOf, Cond.code yX6_signOf cX6_signOf 2 (some .int), Cond.methodLink RX6 110 yX0_sign, Cond.instanceMethod yX0_sign, Cond.selects RX0 yX0_sign yX0_sign, Cond.initialized RX0, Cond.code yX0_sign cX0_sign 9 (some .int), Cond.constantLong RX0 20 (2), Cond.fieldLink RX0 9 "RingBases$Base" "a" "I", Cond.methodLink RX0 22 yJ13_compare_74951, Cond.static yJ13_compare_74951, Cond.initialized RJ13, Cond.code yJ13_compare_74951 cJ13_compare_74951 4 (some .int)]
def wsX6_shelf_r2 : List Cond := [Cond.methodLink RX0 28 yX0_rootsApartSquared, Cond.instanceMethod yX0_rootsApartSquared, Cond.selects RX0 yX0_rootsApartSquared yX0_rootsApartSquared, Cond.code yX0_rootsApartSquared cX0_rootsApartSquared 1 (some .long), Cond.constantLong RX0 18 (4), Cond.fieldLink RX0 15 "RingBases$Base" "b" "I", Cond.methodLink RX6 157 yX6_spellShelf, Cond.instanceMethod yX6_spellShelf, Cond.selects RX6 yX6_spellShelf yX6_spellShelf, Cond.code yX6_spellShelf cX6_spellShelf 2 (some .boolean), Cond.methodLink RX6 226 yX5_spell, Cond.instanceMethod yX5_spell, Cond.selects RX5 yX5_spell yX5_spell, Cond.initialized RX5, Cond.code yX5_spell cX5_spell 4 none, Cond.fieldLink RX5 52 "RingBases$Writing" "ofA" "I", Cond.fieldLink RX5 55 "RingBases$Writing" "ofB" "I", Cond.fieldLink RX5 58 "RingBases$Writing" "ofM" "I", Cond.fieldLink RX5 61 "RingBases$Writing" "ofN" "I", Cond.fieldLink RX5 45 "RingBases$Writing" "leftM" "J", Cond.fieldLink RX5 49 "RingBases$Writing" "leftN" "J", Cond.methodLink RX5 72 yX5_highestPlace, Cond.instanceMethod yX5_highestPlace, Cond.selects RX5 yX5_highestPlace yX5_highestPlace]
def wsX6_shelf_r3 : List Cond := [Cond.code yX5_highestPlace cX5_highestPlace 7 (some .int), Cond.fieldLink RX5 32 "RingBases$Writing" "powerMs" "[J", Cond.fieldLink RX5 36 "RingBases$Writing" "powerNs" "[J", Cond.methodLink RX5 88 yX0_raisedM, Cond.instanceMethod yX0_raisedM, Cond.selects RX0 yX0_raisedM yX0_raisedM, Cond.code yX0_raisedM cX0_raisedM 3 (some .long), Cond.methodLink RX5 92 yX0_raisedN, Cond.instanceMethod yX0_raisedN, Cond.selects RX0 yX0_raisedN yX0_raisedN, Cond.code yX0_raisedN cX0_raisedN 5 (some .long), Cond.methodLink RX5 96 yX0_sign, Cond.methodLink RX5 76 yX5_spellAhead, Cond.instanceMethod yX5_spellAhead, Cond.selects RX5 yX5_spellAhead yX5_spellAhead, Cond.code yX5_spellAhead cX5_spellAhead 4 none, Cond.fieldLink RX5 15 "RingBases$Writing" "ahead" "I", Cond.fieldLink RX5 9 "RingBases$Writing" "figures" "[I", Cond.methodLink RX5 84 yX5_takeOut, Cond.instanceMethod yX5_takeOut, Cond.selects RX5 yX5_takeOut yX5_takeOut, Cond.code yX5_takeOut cX5_takeOut 7 (some .int), Cond.methodLink RX5 80 yX5_spellBehind, Cond.instanceMethod yX5_spellBehind]
def wsX6_shelf_r4 : List Cond := [Cond.selects RX5 yX5_spellBehind yX5_spellBehind, Cond.code yX5_spellBehind cX5_spellBehind 3 none, Cond.fieldLink RX5 19 "RingBases$Writing" "behind" "I", Cond.fieldLink RX5 26 "RingBases$Writing" "lead" "I", Cond.fieldLink RX5 29 "RingBases$Writing" "round" "I", Cond.fieldLink RX5 39 "RingBases$Writing" "restMs" "[J", Cond.fieldLink RX5 42 "RingBases$Writing" "restNs" "[J", Cond.fieldLink RX5 22 "RingBases$Writing" "ends" "Z", Cond.methodLink RX5 100 yX5_isAnythingLeft, Cond.instanceMethod yX5_isAnythingLeft, Cond.selects RX5 yX5_isAnythingLeft yX5_isAnythingLeft, Cond.code yX5_isAnythingLeft cX5_isAnythingLeft 1 (some .boolean), Cond.methodLink RX5 104 yX5_lookForRound, Cond.instanceMethod yX5_lookForRound, Cond.selects RX5 yX5_lookForRound yX5_lookForRound, Cond.code yX5_lookForRound cX5_lookForRound 3 none, Cond.methodLink RX6 160 yX5_tell, Cond.instanceMethod yX5_tell, Cond.selects RX5 yX5_tell yX5_tell, Cond.code yX5_tell cX5_tell 2 (some .int), Cond.methodLink RX6 121 yX0_wholePart, Cond.instanceMethod yX0_wholePart, Cond.selects RX0 yX0_wholePart yX0_wholePart, Cond.code yX0_wholePart cX0_wholePart 9 (some .long)]
def wsX6_shelf_r5 : List Cond := [Cond.methodLink RX0 32 Lib.MathLoose.abs_long.x, Cond.static Lib.MathLoose.abs_long.x, Cond.initialized "java/lang/Math", Cond.code Lib.MathLoose.abs_long.x Lib.MathLoose.abs_long.code 2 (some .long), Cond.methodLink RX0 38 yX0_squareRoot, Cond.static yX0_squareRoot, Cond.code yX0_squareRoot cX0_squareRoot 8 (some .long), Cond.constantLong RX0 41 (1073741824)]
def wsX6_shelf : List Cond := .code yX6_shelf cX6_shelf 3 (some .int) :: ((wsX6_shelf_r1 ++ (wsX6_shelf_r2 ++ (wsX6_shelf_r3 ++ (wsX6_shelf_r4 ++ wsX6_shelf_r5)))) ++ wsX60 ++ wsX30 ++ wsX00 ++ wsX50)
def wsX6_figure_r1 : List Cond := [Cond.constant RX6 71 (-2000000001), Cond.constant RX6 50 (-2000000002), Cond.constant RX6 117 (-2000000003), Cond.fieldLink RX6 40 "RingBases" "writing" "LRingBases$Writing;", Cond.methodLink RX6 67 yX6_isNoShelf, Cond.static yX6_isNoShelf, Cond.initialized RX6, Cond.code yX6_isNoShelf cX6_isNoShelf 1 (some .boolean), Cond.methodLink RX6 157 yX6_spellShelf, Cond.instanceMethod yX6_spellShelf, Cond.selects RX6 yX6_spellShelf yX6_spellShelf, Cond.code yX6_spellShelf cX6_spellShelf 2 (some .boolean), Cond.fieldLink RX6 12 "RingBases" "now" "LRingBases$State;", Cond.methodLink RX6 153 yX6_signOf, Cond.instanceMethod yX6_signOf, Cond.selects RX6 yX6_signOf yX6_signOf, Cond.code yX6_signOf cX6_signOf 2 (some .int), Cond.methodLink RX6 110 yX0_sign, Cond.instanceMethod yX0_sign, Cond.selects RX0 yX0_sign yX0_sign, Cond.initialized RX0, Cond.code yX0_sign cX0_sign 9 (some .int), Cond.constantLong RX0 20 (2), Cond.fieldLink RX0 9 "RingBases$Base" "a" "I"]
def wsX6_figure_r2 : List Cond := [Cond.methodLink RX0 22 yJ13_compare_74951, Cond.static yJ13_compare_74951, Cond.initialized RJ13, Cond.code yJ13_compare_74951 cJ13_compare_74951 4 (some .int), Cond.methodLink RX0 28 yX0_rootsApartSquared, Cond.instanceMethod yX0_rootsApartSquared, Cond.selects RX0 yX0_rootsApartSquared yX0_rootsApartSquared, Cond.code yX0_rootsApartSquared cX0_rootsApartSquared 1 (some .long), Cond.constantLong RX0 18 (4), Cond.fieldLink RX0 15 "RingBases$Base" "b" "I", Cond.methodLink RX6 226 yX5_spell, Cond.instanceMethod yX5_spell, Cond.selects RX5 yX5_spell yX5_spell, Cond.initialized RX5, Cond.code yX5_spell cX5_spell 4 none, Cond.fieldLink RX5 52 "RingBases$Writing" "ofA" "I", Cond.fieldLink RX5 55 "RingBases$Writing" "ofB" "I", Cond.fieldLink RX5 58 "RingBases$Writing" "ofM" "I", Cond.fieldLink RX5 61 "RingBases$Writing" "ofN" "I", Cond.fieldLink RX5 45 "RingBases$Writing" "leftM" "J", Cond.fieldLink RX5 49 "RingBases$Writing" "leftN" "J", Cond.methodLink RX5 72 yX5_highestPlace, Cond.instanceMethod yX5_highestPlace, Cond.selects RX5 yX5_highestPlace yX5_highestPlace]
def wsX6_figure_r3 : List Cond := [Cond.code yX5_highestPlace cX5_highestPlace 7 (some .int), Cond.fieldLink RX5 32 "RingBases$Writing" "powerMs" "[J", Cond.fieldLink RX5 36 "RingBases$Writing" "powerNs" "[J", Cond.methodLink RX5 88 yX0_raisedM, Cond.instanceMethod yX0_raisedM, Cond.selects RX0 yX0_raisedM yX0_raisedM, Cond.code yX0_raisedM cX0_raisedM 3 (some .long), Cond.methodLink RX5 92 yX0_raisedN, Cond.instanceMethod yX0_raisedN, Cond.selects RX0 yX0_raisedN yX0_raisedN, Cond.code yX0_raisedN cX0_raisedN 5 (some .long), Cond.methodLink RX5 96 yX0_sign, Cond.methodLink RX5 76 yX5_spellAhead, Cond.instanceMethod yX5_spellAhead, Cond.selects RX5 yX5_spellAhead yX5_spellAhead, Cond.code yX5_spellAhead cX5_spellAhead 4 none, Cond.fieldLink RX5 15 "RingBases$Writing" "ahead" "I", Cond.fieldLink RX5 9 "RingBases$Writing" "figures" "[I", Cond.methodLink RX5 84 yX5_takeOut, Cond.instanceMethod yX5_takeOut, Cond.selects RX5 yX5_takeOut yX5_takeOut, Cond.code yX5_takeOut cX5_takeOut 7 (some .int), Cond.methodLink RX5 80 yX5_spellBehind, Cond.instanceMethod yX5_spellBehind]
def wsX6_figure_r4 : List Cond := [Cond.selects RX5 yX5_spellBehind yX5_spellBehind, Cond.code yX5_spellBehind cX5_spellBehind 3 none, Cond.fieldLink RX5 19 "RingBases$Writing" "behind" "I", Cond.fieldLink RX5 26 "RingBases$Writing" "lead" "I", Cond.fieldLink RX5 29 "RingBases$Writing" "round" "I", Cond.fieldLink RX5 39 "RingBases$Writing" "restMs" "[J", Cond.fieldLink RX5 42 "RingBases$Writing" "restNs" "[J", Cond.fieldLink RX5 22 "RingBases$Writing" "ends" "Z", Cond.methodLink RX5 100 yX5_isAnythingLeft, Cond.instanceMethod yX5_isAnythingLeft, Cond.selects RX5 yX5_isAnythingLeft yX5_isAnythingLeft, Cond.code yX5_isAnythingLeft cX5_isAnythingLeft 1 (some .boolean), Cond.methodLink RX5 104 yX5_lookForRound, Cond.instanceMethod yX5_lookForRound, Cond.selects RX5 yX5_lookForRound yX5_lookForRound, Cond.code yX5_lookForRound cX5_lookForRound 3 none, Cond.methodLink RX6 166 yX5_hasFigure, Cond.instanceMethod yX5_hasFigure, Cond.selects RX5 yX5_hasFigure yX5_hasFigure, Cond.code yX5_hasFigure cX5_hasFigure 2 (some .boolean)]
def wsX6_figure : List Cond := .code yX6_figure cX6_figure 4 (some .int) :: ((wsX6_figure_r1 ++ (wsX6_figure_r2 ++ (wsX6_figure_r3 ++ wsX6_figure_r4))) ++ wsX60 ++ wsX50 ++ wsX30 ++ wsX00)
def wsX6_compare : List Cond := .code yX6_compare cX6_compare 3 (some .int) :: ([.constant RX6 71 (-2000000001), .fieldLink RX6 12 "RingBases" "now" "LRingBases$State;", .methodLink RX6 67 yX6_isNoShelf, .static yX6_isNoShelf, .initialized RX6, .code yX6_isNoShelf cX6_isNoShelf 1 (some .boolean), .methodLink RX6 110 yX0_sign, .instanceMethod yX0_sign, .selects RX0 yX0_sign yX0_sign, .initialized RX0, .code yX0_sign cX0_sign 9 (some .int), .constantLong RX0 20 (2), .fieldLink RX0 9 "RingBases$Base" "a" "I", .methodLink RX0 22 yJ13_compare_74951, .static yJ13_compare_74951, .initialized RJ13, .code yJ13_compare_74951 cJ13_compare_74951 4 (some .int), .methodLink RX0 28 yX0_rootsApartSquared, .instanceMethod yX0_rootsApartSquared, .selects RX0 yX0_rootsApartSquared yX0_rootsApartSquared, .code yX0_rootsApartSquared cX0_rootsApartSquared 1 (some .long), .constantLong RX0 18 (4), .fieldLink RX0 15 "RingBases$Base" "b" "I"] ++ wsX60 ++ wsX30 ++ wsX00)
def wsX6_beside_r1 : List Cond := [Cond.constant RX6 71 (-2000000001), Cond.fieldLink RX6 12 "RingBases" "now" "LRingBases$State;", Cond.methodLink RX6 67 yX6_isNoShelf, Cond.static yX6_isNoShelf, Cond.initialized RX6, Cond.code yX6_isNoShelf cX6_isNoShelf 1 (some .boolean), Cond.methodLink RX6 121 yX0_wholePart, Cond.instanceMethod yX0_wholePart, Cond.selects RX0 yX0_wholePart yX0_wholePart, Cond.initialized RX0, Cond.code yX0_wholePart cX0_wholePart 9 (some .long), Cond.methodLink RX0 32 Lib.MathLoose.abs_long.x, Cond.static Lib.MathLoose.abs_long.x, Cond.initialized "java/lang/Math", Cond.code Lib.MathLoose.abs_long.x Lib.MathLoose.abs_long.code 2 (some .long), Cond.fieldLink RX0 9 "RingBases$Base" "a" "I", Cond.constantLong RX0 20 (2), Cond.methodLink RX0 28 yX0_rootsApartSquared, Cond.instanceMethod yX0_rootsApartSquared, Cond.selects RX0 yX0_rootsApartSquared yX0_rootsApartSquared, Cond.code yX0_rootsApartSquared cX0_rootsApartSquared 1 (some .long), Cond.constantLong RX0 18 (4), Cond.fieldLink RX0 15 "RingBases$Base" "b" "I", Cond.methodLink RX0 38 yX0_squareRoot]
def wsX6_beside_r2 : List Cond := [Cond.static yX0_squareRoot, Cond.code yX0_squareRoot cX0_squareRoot 8 (some .long), Cond.constantLong RX0 41 (1073741824)]
def wsX6_beside : List Cond := .code yX6_beside cX6_beside 4 (some .int) :: ((wsX6_beside_r1 ++ wsX6_beside_r2) ++ wsX60 ++ wsX30 ++ wsX00)
def wsX6_norm : List Cond := .code yX6_norm cX6_norm 6 (some .long) :: ([.constantLong RX6 172 (-2000000001), .fieldLink RX6 12 "RingBases" "now" "LRingBases$State;", .methodLink RX6 67 yX6_isNoShelf, .static yX6_isNoShelf, .initialized RX6, .code yX6_isNoShelf cX6_isNoShelf 1 (some .boolean)] ++ wsX60 ++ wsX30 ++ wsX00)
def wsX6_feed : List Cond := .code yX6_feed cX6_feed 4 (some .int) :: ([.fieldLink RX6 33 "RingBases" "word" "LRingBases$Word;", .constant RX6 50 (-2000000002), .constant RX6 142 (-2000000004), .methodLink RX6 174 yX4_hasPoint, .instanceMethod yX4_hasPoint, .selects RX4 yX4_hasPoint yX4_hasPoint, .initialized RX4, .code yX4_hasPoint cX4_hasPoint 1 (some .boolean), .fieldLink RX4 22 "RingBases$Word" "aheadOfPoint" "I", .methodLink RX6 124 yX4_signs, .instanceMethod yX4_signs, .selects RX4 yX4_signs yX4_signs, .code yX4_signs cX4_signs 1 (some .int), .fieldLink RX4 18 "RingBases$Word" "count" "I", .methodLink RX4 31 yX4_hasPoint, .methodLink RX6 177 yX4_addPoint, .instanceMethod yX4_addPoint, .selects RX4 yX4_addPoint yX4_addPoint, .code yX4_addPoint cX4_addPoint 1 none, .methodLink RX6 180 yX4_addFigure, .instanceMethod yX4_addFigure, .selects RX4 yX4_addFigure yX4_addFigure, .code yX4_addFigure cX4_addFigure 2 none, .fieldLink RX4 9 "RingBases$Word" "figures" "[I"] ++ wsX60 ++ wsX40)
def wsX6_clear : List Cond := .code yX6_clear cX6_clear 2 (some .int) :: ([.fieldLink RX6 33 "RingBases" "word" "LRingBases$Word;", .methodLink RX6 124 yX4_signs, .instanceMethod yX4_signs, .selects RX4 yX4_signs yX4_signs, .initialized RX4, .code yX4_signs cX4_signs 1 (some .int), .fieldLink RX4 18 "RingBases$Word" "count" "I", .methodLink RX4 31 yX4_hasPoint, .instanceMethod yX4_hasPoint, .selects RX4 yX4_hasPoint yX4_hasPoint, .code yX4_hasPoint cX4_hasPoint 1 (some .boolean), .fieldLink RX4 22 "RingBases$Word" "aheadOfPoint" "I", .methodLink RX6 184 yX4_empty, .instanceMethod yX4_empty, .selects RX4 yX4_empty yX4_empty, .code yX4_empty cX4_empty 1 none] ++ wsX60 ++ wsX40)
def wsX6_normal_r1 : List Cond := [Cond.constant RX6 50 (-2000000002), Cond.constant RX6 142 (-2000000004), Cond.fieldLink RX6 40 "RingBases" "writing" "LRingBases$Writing;", Cond.methodLink RX6 146 yX6_spellWord, Cond.instanceMethod yX6_spellWord, Cond.selects RX6 yX6_spellWord yX6_spellWord, Cond.initialized RX6, Cond.code yX6_spellWord cX6_spellWord 1 (some .boolean), Cond.fieldLink RX6 33 "RingBases" "word" "LRingBases$Word;", Cond.fieldLink RX6 12 "RingBases" "now" "LRingBases$State;", Cond.methodLink RX6 134 yX4_reckon, Cond.instanceMethod yX4_reckon, Cond.selects RX4 yX4_reckon yX4_reckon, Cond.initialized RX4, Cond.code yX4_reckon cX4_reckon 9 (some .boolean), Cond.fieldLink RX4 18 "RingBases$Word" "count" "I", Cond.fieldLink RX4 9 "RingBases$Word" "figures" "[I", Cond.fieldLink RX4 25 "RingBases$Word" "worthM" "I", Cond.fieldLink RX4 28 "RingBases$Word" "worthN" "I", Cond.methodLink RX4 55 yX0_raisedN, Cond.instanceMethod yX0_raisedN, Cond.selects RX0 yX0_raisedN yX0_raisedN, Cond.initialized RX0, Cond.code yX0_raisedN cX0_raisedN 5 (some .long)]
def wsX6_normal_r2 : List Cond := [Cond.fieldLink RX0 9 "RingBases$Base" "a" "I", Cond.methodLink RX4 61 yX0_raisedM, Cond.instanceMethod yX0_raisedM, Cond.selects RX0 yX0_raisedM yX0_raisedM, Cond.code yX0_raisedM cX0_raisedM 3 (some .long), Cond.fieldLink RX0 15 "RingBases$Base" "b" "I", Cond.static yX6_isOutOfBounds, Cond.code yX6_isOutOfBounds cX6_isOutOfBounds 2 (some .boolean), Cond.constantLong RX6 218 (-999999), Cond.constantLong RX6 220 (999999), Cond.methodLink RX6 226 yX5_spell, Cond.instanceMethod yX5_spell, Cond.selects RX5 yX5_spell yX5_spell, Cond.initialized RX5, Cond.code yX5_spell cX5_spell 4 none, Cond.fieldLink RX5 52 "RingBases$Writing" "ofA" "I", Cond.fieldLink RX5 55 "RingBases$Writing" "ofB" "I", Cond.fieldLink RX5 58 "RingBases$Writing" "ofM" "I", Cond.fieldLink RX5 61 "RingBases$Writing" "ofN" "I", Cond.fieldLink RX5 45 "RingBases$Writing" "leftM" "J", Cond.fieldLink RX5 49 "RingBases$Writing" "leftN" "J", Cond.methodLink RX5 72 yX5_highestPlace, Cond.instanceMethod yX5_highestPlace, Cond.selects RX5 yX5_highestPlace yX5_highestPlace]
def wsX6_normal_r3 : List Cond := [Cond.code yX5_highestPlace cX5_highestPlace 7 (some .int), Cond.fieldLink RX5 32 "RingBases$Writing" "powerMs" "[J", Cond.fieldLink RX5 36 "RingBases$Writing" "powerNs" "[J", Cond.methodLink RX5 88 yX0_raisedM, Cond.methodLink RX5 92 yX0_raisedN, Cond.methodLink RX5 96 yX0_sign, Cond.instanceMethod yX0_sign, Cond.selects RX0 yX0_sign yX0_sign, Cond.code yX0_sign cX0_sign 9 (some .int), Cond.constantLong RX0 20 (2), Cond.methodLink RX0 22 yJ13_compare_74951, Cond.static yJ13_compare_74951, Cond.initialized RJ13, Cond.code yJ13_compare_74951 cJ13_compare_74951 4 (some .int), Cond.methodLink RX0 28 yX0_rootsApartSquared, Cond.instanceMethod yX0_rootsApartSquared, Cond.selects RX0 yX0_rootsApartSquared yX0_rootsApartSquared, Cond.code yX0_rootsApartSquared cX0_rootsApartSquared 1 (some .long), Cond.constantLong RX0 18 (4), Cond.methodLink RX5 76 yX5_spellAhead, Cond.instanceMethod yX5_spellAhead, Cond.selects RX5 yX5_spellAhead yX5_spellAhead, Cond.code yX5_spellAhead cX5_spellAhead 4 none, Cond.fieldLink RX5 15 "RingBases$Writing" "ahead" "I"]
def wsX6_normal_r4 : List Cond := [Cond.fieldLink RX5 9 "RingBases$Writing" "figures" "[I", Cond.methodLink RX5 84 yX5_takeOut, Cond.instanceMethod yX5_takeOut, Cond.selects RX5 yX5_takeOut yX5_takeOut, Cond.code yX5_takeOut cX5_takeOut 7 (some .int), Cond.methodLink RX5 80 yX5_spellBehind, Cond.instanceMethod yX5_spellBehind, Cond.selects RX5 yX5_spellBehind yX5_spellBehind, Cond.code yX5_spellBehind cX5_spellBehind 3 none, Cond.fieldLink RX5 19 "RingBases$Writing" "behind" "I", Cond.fieldLink RX5 26 "RingBases$Writing" "lead" "I", Cond.fieldLink RX5 29 "RingBases$Writing" "round" "I", Cond.fieldLink RX5 39 "RingBases$Writing" "restMs" "[J", Cond.fieldLink RX5 42 "RingBases$Writing" "restNs" "[J", Cond.fieldLink RX5 22 "RingBases$Writing" "ends" "Z", Cond.methodLink RX5 100 yX5_isAnythingLeft, Cond.instanceMethod yX5_isAnythingLeft, Cond.selects RX5 yX5_isAnythingLeft yX5_isAnythingLeft, Cond.code yX5_isAnythingLeft cX5_isAnythingLeft 1 (some .boolean), Cond.methodLink RX5 104 yX5_lookForRound, Cond.instanceMethod yX5_lookForRound, Cond.selects RX5 yX5_lookForRound yX5_lookForRound, Cond.code yX5_lookForRound cX5_lookForRound 3 none, Cond.methodLink RX6 166 yX5_hasFigure]
def wsX6_normal_r5 : List Cond := [Cond.instanceMethod yX5_hasFigure, Cond.selects RX5 yX5_hasFigure yX5_hasFigure, Cond.code yX5_hasFigure cX5_hasFigure 2 (some .boolean)]
def wsX6_normal : List Cond := .code yX6_normal cX6_normal 2 (some .int) :: ((wsX6_normal_r1 ++ (wsX6_normal_r2 ++ (wsX6_normal_r3 ++ (wsX6_normal_r4 ++ wsX6_normal_r5)))) ++ wsX60 ++ wsX50 ++ wsX30 ++ wsX40 ++ wsX00)
def wsX6_next_r1 : List Cond := [Cond.constant RX6 50 (-2000000002), Cond.fieldLink RX6 33 "RingBases" "word" "LRingBases$Word;", Cond.fieldLink RX6 12 "RingBases" "now" "LRingBases$State;", Cond.methodLink RX6 188 yX4_findFollower, Cond.instanceMethod yX4_findFollower, Cond.selects RX4 yX4_findFollower yX4_findFollower, Cond.initialized RX4, Cond.code yX4_findFollower cX4_findFollower 3 (some .boolean), Cond.fieldLink RX4 9 "RingBases$Word" "figures" "[I", Cond.fieldLink RX4 15 "RingBases$Word" "follower" "[I", Cond.fieldLink RX4 18 "RingBases$Word" "count" "I", Cond.methodLink RX4 81 arraycopyName, Cond.native arraycopyName, Cond.static arraycopyName, Cond.initialized "java/lang/System", Cond.methodLink RX4 69 yX4_firstBad, Cond.static yX4_firstBad, Cond.code yX4_firstBad cX4_firstBad 4 (some .int), Cond.methodLink RX4 73 yX4_isLessThanOne, Cond.static yX4_isLessThanOne, Cond.code yX4_isLessThanOne cX4_isLessThanOne 6 (some .boolean), Cond.methodLink RX4 77 yX0_figureOfOne, Cond.instanceMethod yX0_figureOfOne, Cond.selects RX0 yX0_figureOfOne yX0_figureOfOne]
def wsX6_next_r2 : List Cond := [Cond.initialized RX0, Cond.code yX0_figureOfOne cX0_figureOfOne 2 (some .int), Cond.fieldLink RX0 15 "RingBases$Base" "b" "I", Cond.fieldLink RX0 9 "RingBases$Base" "a" "I"]
def wsX6_next : List Cond := .code yX6_next cX6_next 2 (some .int) :: ((wsX6_next_r1 ++ wsX6_next_r2) ++ wsX60 ++ wsX40 ++ wsX30 ++ wsX00)
def wsX6_one : List Cond := .code yX6_one cX6_one 2 (some .int) :: ([.constant RX6 50 (-2000000002), .fieldLink RX6 12 "RingBases" "now" "LRingBases$State;", .methodLink RX6 194 yX0_figureOfOne, .instanceMethod yX0_figureOfOne, .selects RX0 yX0_figureOfOne yX0_figureOfOne, .initialized RX0, .code yX0_figureOfOne cX0_figureOfOne 2 (some .int), .fieldLink RX0 15 "RingBases$Base" "b" "I", .fieldLink RX0 9 "RingBases$Base" "a" "I"] ++ wsX60 ++ wsX30 ++ wsX00)
def wsX6_read_r1 : List Cond := [Cond.constant RX6 71 (-2000000001), Cond.fieldLink RX6 33 "RingBases" "word" "LRingBases$Word;", Cond.fieldLink RX6 12 "RingBases" "now" "LRingBases$State;", Cond.constant RX6 142 (-2000000004), Cond.methodLink RX6 67 yX6_isNoShelf, Cond.static yX6_isNoShelf, Cond.initialized RX6, Cond.code yX6_isNoShelf cX6_isNoShelf 1 (some .boolean), Cond.methodLink RX6 134 yX4_reckon, Cond.instanceMethod yX4_reckon, Cond.selects RX4 yX4_reckon yX4_reckon, Cond.initialized RX4, Cond.code yX4_reckon cX4_reckon 9 (some .boolean), Cond.fieldLink RX4 18 "RingBases$Word" "count" "I", Cond.fieldLink RX4 9 "RingBases$Word" "figures" "[I", Cond.fieldLink RX4 25 "RingBases$Word" "worthM" "I", Cond.fieldLink RX4 28 "RingBases$Word" "worthN" "I", Cond.methodLink RX4 55 yX0_raisedN, Cond.instanceMethod yX0_raisedN, Cond.selects RX0 yX0_raisedN yX0_raisedN, Cond.initialized RX0, Cond.code yX0_raisedN cX0_raisedN 5 (some .long), Cond.fieldLink RX0 9 "RingBases$Base" "a" "I", Cond.methodLink RX4 61 yX0_raisedM]
def wsX6_read_r2 : List Cond := [Cond.instanceMethod yX0_raisedM, Cond.selects RX0 yX0_raisedM yX0_raisedM, Cond.code yX0_raisedM cX0_raisedM 3 (some .long), Cond.fieldLink RX0 15 "RingBases$Base" "b" "I", Cond.static yX6_isOutOfBounds, Cond.code yX6_isOutOfBounds cX6_isOutOfBounds 2 (some .boolean), Cond.constantLong RX6 218 (-999999), Cond.constantLong RX6 220 (999999), Cond.methodLink RX6 76 yX6_lay, Cond.instanceMethod yX6_lay, Cond.selects RX6 yX6_lay yX6_lay, Cond.code yX6_lay cX6_lay 6 (some .int), Cond.fieldLink RX6 19 "RingBases" "history" "LRingBases$History;", Cond.methodLink RX6 72 yX6_isOutOfBounds, Cond.methodLink RX6 51 yX1_remember, Cond.instanceMethod yX1_remember, Cond.selects RX1 yX1_remember yX1_remember, Cond.initialized RX1, Cond.code yX1_remember cX1_remember 2 none, Cond.fieldLink RX1 9 "RingBases$History" "cells" "[I", Cond.fieldLink RX1 15 "RingBases$History" "oldest" "I", Cond.fieldLink RX1 19 "RingBases$History" "count" "I", Cond.methodLink RX1 22 yX3_copyInto, Cond.instanceMethod yX3_copyInto]
def wsX6_read_r3 : List Cond := [Cond.selects RX3 yX3_copyInto yX3_copyInto, Cond.initialized RX3, Cond.code yX3_copyInto cX3_copyInto 3 none, Cond.fieldLink RX3 12 "RingBases$State" "base" "LRingBases$Base;", Cond.fieldLink RX3 18 "RingBases$State" "ms" "[I", Cond.methodLink RX3 32 arraycopyName, Cond.native arraycopyName, Cond.static arraycopyName, Cond.initialized "java/lang/System", Cond.fieldLink RX3 22 "RingBases$State" "ns" "[I", Cond.methodLink RX6 153 yX6_signOf, Cond.instanceMethod yX6_signOf, Cond.selects RX6 yX6_signOf yX6_signOf, Cond.code yX6_signOf cX6_signOf 2 (some .int), Cond.methodLink RX6 110 yX0_sign, Cond.instanceMethod yX0_sign, Cond.selects RX0 yX0_sign yX0_sign, Cond.code yX0_sign cX0_sign 9 (some .int), Cond.constantLong RX0 20 (2), Cond.methodLink RX0 22 yJ13_compare_74951, Cond.static yJ13_compare_74951, Cond.initialized RJ13, Cond.code yJ13_compare_74951 cJ13_compare_74951 4 (some .int), Cond.methodLink RX0 28 yX0_rootsApartSquared]
def wsX6_read_r4 : List Cond := [Cond.instanceMethod yX0_rootsApartSquared, Cond.selects RX0 yX0_rootsApartSquared yX0_rootsApartSquared, Cond.code yX0_rootsApartSquared cX0_rootsApartSquared 1 (some .long), Cond.constantLong RX0 18 (4), Cond.methodLink RX6 131 yX4_shift, Cond.instanceMethod yX4_shift, Cond.selects RX4 yX4_shift yX4_shift, Cond.code yX4_shift cX4_shift 1 (some .int), Cond.fieldLink RX4 22 "RingBases$Word" "aheadOfPoint" "I", Cond.methodLink RX4 31 yX4_hasPoint, Cond.instanceMethod yX4_hasPoint, Cond.selects RX4 yX4_hasPoint yX4_hasPoint, Cond.code yX4_hasPoint cX4_hasPoint 1 (some .boolean)]
def wsX6_read : List Cond := .code yX6_read cX6_read 2 (some .int) :: ((wsX6_read_r1 ++ (wsX6_read_r2 ++ (wsX6_read_r3 ++ wsX6_read_r4))) ++ wsX60 ++ wsX30 ++ wsX40 ++ wsX00 ++ wsX10)
def wsX6_write_r1 : List Cond := [Cond.constant RX6 71 (-2000000001), Cond.constant RX6 117 (-2000000003), Cond.fieldLink RX6 40 "RingBases" "writing" "LRingBases$Writing;", Cond.constant RX6 142 (-2000000004), Cond.fieldLink RX6 33 "RingBases" "word" "LRingBases$Word;", Cond.methodLink RX6 67 yX6_isNoShelf, Cond.static yX6_isNoShelf, Cond.initialized RX6, Cond.code yX6_isNoShelf cX6_isNoShelf 1 (some .boolean), Cond.methodLink RX6 157 yX6_spellShelf, Cond.instanceMethod yX6_spellShelf, Cond.selects RX6 yX6_spellShelf yX6_spellShelf, Cond.code yX6_spellShelf cX6_spellShelf 2 (some .boolean), Cond.fieldLink RX6 12 "RingBases" "now" "LRingBases$State;", Cond.methodLink RX6 153 yX6_signOf, Cond.instanceMethod yX6_signOf, Cond.selects RX6 yX6_signOf yX6_signOf, Cond.code yX6_signOf cX6_signOf 2 (some .int), Cond.methodLink RX6 110 yX0_sign, Cond.instanceMethod yX0_sign, Cond.selects RX0 yX0_sign yX0_sign, Cond.initialized RX0, Cond.code yX0_sign cX0_sign 9 (some .int), Cond.constantLong RX0 20 (2)]
def wsX6_write_r2 : List Cond := [Cond.fieldLink RX0 9 "RingBases$Base" "a" "I", Cond.methodLink RX0 22 yJ13_compare_74951, Cond.static yJ13_compare_74951, Cond.initialized RJ13, Cond.code yJ13_compare_74951 cJ13_compare_74951 4 (some .int), Cond.methodLink RX0 28 yX0_rootsApartSquared, Cond.instanceMethod yX0_rootsApartSquared, Cond.selects RX0 yX0_rootsApartSquared yX0_rootsApartSquared, Cond.code yX0_rootsApartSquared cX0_rootsApartSquared 1 (some .long), Cond.constantLong RX0 18 (4), Cond.fieldLink RX0 15 "RingBases$Base" "b" "I", Cond.methodLink RX6 226 yX5_spell, Cond.instanceMethod yX5_spell, Cond.selects RX5 yX5_spell yX5_spell, Cond.initialized RX5, Cond.code yX5_spell cX5_spell 4 none, Cond.fieldLink RX5 52 "RingBases$Writing" "ofA" "I", Cond.fieldLink RX5 55 "RingBases$Writing" "ofB" "I", Cond.fieldLink RX5 58 "RingBases$Writing" "ofM" "I", Cond.fieldLink RX5 61 "RingBases$Writing" "ofN" "I", Cond.fieldLink RX5 45 "RingBases$Writing" "leftM" "J", Cond.fieldLink RX5 49 "RingBases$Writing" "leftN" "J", Cond.methodLink RX5 72 yX5_highestPlace, Cond.instanceMethod yX5_highestPlace]
def wsX6_write_r3 : List Cond := [Cond.selects RX5 yX5_highestPlace yX5_highestPlace, Cond.code yX5_highestPlace cX5_highestPlace 7 (some .int), Cond.fieldLink RX5 32 "RingBases$Writing" "powerMs" "[J", Cond.fieldLink RX5 36 "RingBases$Writing" "powerNs" "[J", Cond.methodLink RX5 88 yX0_raisedM, Cond.instanceMethod yX0_raisedM, Cond.selects RX0 yX0_raisedM yX0_raisedM, Cond.code yX0_raisedM cX0_raisedM 3 (some .long), Cond.methodLink RX5 92 yX0_raisedN, Cond.instanceMethod yX0_raisedN, Cond.selects RX0 yX0_raisedN yX0_raisedN, Cond.code yX0_raisedN cX0_raisedN 5 (some .long), Cond.methodLink RX5 96 yX0_sign, Cond.methodLink RX5 76 yX5_spellAhead, Cond.instanceMethod yX5_spellAhead, Cond.selects RX5 yX5_spellAhead yX5_spellAhead, Cond.code yX5_spellAhead cX5_spellAhead 4 none, Cond.fieldLink RX5 15 "RingBases$Writing" "ahead" "I", Cond.fieldLink RX5 9 "RingBases$Writing" "figures" "[I", Cond.methodLink RX5 84 yX5_takeOut, Cond.instanceMethod yX5_takeOut, Cond.selects RX5 yX5_takeOut yX5_takeOut, Cond.code yX5_takeOut cX5_takeOut 7 (some .int), Cond.methodLink RX5 80 yX5_spellBehind]
def wsX6_write_r4 : List Cond := [Cond.instanceMethod yX5_spellBehind, Cond.selects RX5 yX5_spellBehind yX5_spellBehind, Cond.code yX5_spellBehind cX5_spellBehind 3 none, Cond.fieldLink RX5 19 "RingBases$Writing" "behind" "I", Cond.fieldLink RX5 26 "RingBases$Writing" "lead" "I", Cond.fieldLink RX5 29 "RingBases$Writing" "round" "I", Cond.fieldLink RX5 39 "RingBases$Writing" "restMs" "[J", Cond.fieldLink RX5 42 "RingBases$Writing" "restNs" "[J", Cond.fieldLink RX5 22 "RingBases$Writing" "ends" "Z", Cond.methodLink RX5 100 yX5_isAnythingLeft, Cond.instanceMethod yX5_isAnythingLeft, Cond.selects RX5 yX5_isAnythingLeft yX5_isAnythingLeft, Cond.code yX5_isAnythingLeft cX5_isAnythingLeft 1 (some .boolean), Cond.methodLink RX5 104 yX5_lookForRound, Cond.instanceMethod yX5_lookForRound, Cond.selects RX5 yX5_lookForRound yX5_lookForRound, Cond.code yX5_lookForRound cX5_lookForRound 3 none, Cond.methodLink RX6 150 yX5_figureCount, Cond.instanceMethod yX5_figureCount, Cond.selects RX5 yX5_figureCount yX5_figureCount, Cond.code yX5_figureCount cX5_figureCount 1 (some .int), Cond.methodLink RX6 200 yX4_copyFrom, Cond.instanceMethod yX4_copyFrom, Cond.selects RX4 yX4_copyFrom yX4_copyFrom]
def wsX6_write_r5 : List Cond := [Cond.initialized RX4, Cond.code yX4_copyFrom cX4_copyFrom 3 none, Cond.fieldLink RX4 22 "RingBases$Word" "aheadOfPoint" "I", Cond.methodLink RX4 35 yX4_empty, Cond.instanceMethod yX4_empty, Cond.selects RX4 yX4_empty yX4_empty, Cond.code yX4_empty cX4_empty 1 none, Cond.fieldLink RX4 18 "RingBases$Word" "count" "I", Cond.methodLink RX4 38 yX5_figureCount, Cond.methodLink RX4 45 yX4_addFigure, Cond.instanceMethod yX4_addFigure, Cond.selects RX4 yX4_addFigure yX4_addFigure, Cond.code yX4_addFigure cX4_addFigure 2 none, Cond.fieldLink RX4 9 "RingBases$Word" "figures" "[I"]
def wsX6_write : List Cond := .code yX6_write cX6_write 3 (some .int) :: ((wsX6_write_r1 ++ (wsX6_write_r2 ++ (wsX6_write_r3 ++ (wsX6_write_r4 ++ wsX6_write_r5)))) ++ wsX60 ++ wsX50 ++ wsX30 ++ wsX00 ++ wsX40)
def wsX6_keep_r1 : List Cond := [Cond.constant RX6 71 (-2000000001), Cond.fieldLink RX6 26 "RingBases" "images" "LRingBases$Images;", Cond.fieldLink RX6 12 "RingBases" "now" "LRingBases$State;", Cond.fieldLink RX6 19 "RingBases" "history" "LRingBases$History;", Cond.methodLink RX6 204 yX2_take, Cond.instanceMethod yX2_take, Cond.selects RX2 yX2_take yX2_take, Cond.initialized RX2, Cond.code yX2_take cX2_take 3 none, Cond.fieldLink RX2 9 "RingBases$Images" "cells" "[I", Cond.fieldLink RX2 15 "RingBases$Images" "kept" "[Z", Cond.methodLink RX2 19 yX3_copyInto, Cond.instanceMethod yX3_copyInto, Cond.selects RX3 yX3_copyInto yX3_copyInto, Cond.initialized RX3, Cond.code yX3_copyInto cX3_copyInto 3 none, Cond.fieldLink RX3 12 "RingBases$State" "base" "LRingBases$Base;", Cond.fieldLink RX3 18 "RingBases$State" "ms" "[I", Cond.methodLink RX3 32 arraycopyName, Cond.native arraycopyName, Cond.static arraycopyName, Cond.initialized "java/lang/System", Cond.fieldLink RX3 22 "RingBases$State" "ns" "[I", Cond.methodLink RX6 208 yX1_forget]
def wsX6_keep_r2 : List Cond := [Cond.instanceMethod yX1_forget, Cond.selects RX1 yX1_forget yX1_forget, Cond.initialized RX1, Cond.code yX1_forget cX1_forget 1 none, Cond.fieldLink RX1 19 "RingBases$History" "count" "I"]
def wsX6_keep : List Cond := .code yX6_keep cX6_keep 2 (some .int) :: ((wsX6_keep_r1 ++ wsX6_keep_r2) ++ wsX60 ++ wsX20 ++ wsX30 ++ wsX00 ++ wsX10)
def wsX6_goBack_r1 : List Cond := [Cond.constant RX6 71 (-2000000001), Cond.fieldLink RX6 26 "RingBases" "images" "LRingBases$Images;", Cond.constant RX6 117 (-2000000003), Cond.fieldLink RX6 12 "RingBases" "now" "LRingBases$State;", Cond.fieldLink RX6 19 "RingBases" "history" "LRingBases$History;", Cond.methodLink RX6 215 yX2_give, Cond.instanceMethod yX2_give, Cond.selects RX2 yX2_give yX2_give, Cond.initialized RX2, Cond.code yX2_give cX2_give 3 none, Cond.fieldLink RX2 9 "RingBases$Images" "cells" "[I", Cond.methodLink RX2 25 yX3_copyFrom, Cond.instanceMethod yX3_copyFrom, Cond.selects RX3 yX3_copyFrom yX3_copyFrom, Cond.initialized RX3, Cond.code yX3_copyFrom cX3_copyFrom 3 none, Cond.fieldLink RX3 12 "RingBases$State" "base" "LRingBases$Base;", Cond.fieldLink RX3 18 "RingBases$State" "ms" "[I", Cond.methodLink RX3 32 arraycopyName, Cond.native arraycopyName, Cond.static arraycopyName, Cond.initialized "java/lang/System", Cond.fieldLink RX3 22 "RingBases$State" "ns" "[I", Cond.methodLink RX3 38 yX0_become]
def wsX6_goBack_r2 : List Cond := [Cond.instanceMethod yX0_become, Cond.selects RX0 yX0_become yX0_become, Cond.initialized RX0, Cond.code yX0_become cX0_become 3 none, Cond.fieldLink RX0 9 "RingBases$Base" "a" "I", Cond.fieldLink RX0 15 "RingBases$Base" "b" "I", Cond.methodLink RX6 208 yX1_forget, Cond.instanceMethod yX1_forget, Cond.selects RX1 yX1_forget yX1_forget, Cond.initialized RX1, Cond.code yX1_forget cX1_forget 1 none, Cond.fieldLink RX1 19 "RingBases$History" "count" "I"]
def wsX6_goBack : List Cond := .code yX6_goBack cX6_goBack 2 (some .int) :: ((wsX6_goBack_r1 ++ wsX6_goBack_r2) ++ wsX60 ++ wsX20 ++ wsX30 ++ wsX00 ++ wsX10)
def wsX7_init : List Cond := .code yX7_init cX7_init 1 none :: ([.methodLink RX7 1 objectInit, .instanceMethod objectInit, .code objectInit ⟨#[0xb1]⟩ 1 none, .arrayClass .int, .fieldLink RX7 7 "RingBasesModel" "w" "[I", .fieldLink RX7 13 "RingBasesModel" "word" "[I", .fieldLink RX7 16 "RingBasesModel" "ahead" "[I", .fieldLink RX7 19 "RingBasesModel" "behind" "[I", .arrayClass .long, .fieldLink RX7 22 "RingBasesModel" "restM" "[J", .fieldLink RX7 26 "RingBasesModel" "restN" "[J", .fieldLink RX7 29 "RingBasesModel" "powerM" "[J", .fieldLink RX7 32 "RingBasesModel" "powerN" "[J", .fieldLink RX7 35 "RingBasesModel" "row" "[I"] ++ wsX70)
def wsX7_in : List Cond := .code yX7_in cX7_in 6 (some .boolean) :: ([])
def wsX7_has : List Cond := .code yX7_has cX7_has 2 (some .boolean) :: ([])
def wsX7_copyRow : List Cond := .code yX7_copyRow cX7_copyRow 4 none :: ([.fieldLink RX7 7 "RingBasesModel" "w" "[I"] ++ wsX70)
def wsX7_remember : List Cond := .code yX7_remember cX7_remember 2 none :: ([.fieldLink RX7 42 "RingBasesModel" "known" "I", .methodLink RX7 38 yX7_copyRow, .instanceMethod yX7_copyRow, .selects RX7 yX7_copyRow yX7_copyRow, .initialized RX7, .code yX7_copyRow cX7_copyRow 4 none, .fieldLink RX7 7 "RingBasesModel" "w" "[I"] ++ wsX70)
def wsX7_inside : List Cond := .code yX7_inside cX7_inside 1 (some .long) :: ([.fieldLink RX7 7 "RingBasesModel" "w" "[I", .constantLong RX7 46 (4)] ++ wsX70)
def wsX7_signOne : List Cond := .code yX7_signOne cX7_signOne 2 (some .int) :: ([])
def wsX7_signOf : List Cond := .code yX7_signOf cX7_signOf 8 (some .int) :: ([.constantLong RX7 48 (2), .fieldLink RX7 7 "RingBasesModel" "w" "[I", .methodLink RX7 50 yX7_signOne, .static yX7_signOne, .initialized RX7, .code yX7_signOne cX7_signOne 2 (some .int), .methodLink RX7 54 yX7_inside, .instanceMethod yX7_inside, .selects RX7 yX7_inside yX7_inside, .code yX7_inside cX7_inside 1 (some .long), .constantLong RX7 46 (4)] ++ wsX70)
def wsX7_rootOf : List Cond := .code yX7_rootOf cX7_rootOf 7 (some .long) :: ([])
def wsX7_halfDown : List Cond := .code yX7_halfDown cX7_halfDown 2 (some .long) :: ([.constantLong RX7 48 (2)])
def wsX7_wholeOf : List Cond := .code yX7_wholeOf cX7_wholeOf 9 (some .long) :: ([.constantLong RX7 48 (2), .fieldLink RX7 7 "RingBasesModel" "w" "[I", .methodLink RX7 54 yX7_inside, .instanceMethod yX7_inside, .selects RX7 yX7_inside yX7_inside, .initialized RX7, .code yX7_inside cX7_inside 1 (some .long), .constantLong RX7 46 (4), .methodLink RX7 58 yX7_rootOf, .static yX7_rootOf, .code yX7_rootOf cX7_rootOf 7 (some .long), .methodLink RX7 62 yX7_halfDown, .static yX7_halfDown, .code yX7_halfDown cX7_halfDown 2 (some .long)] ++ wsX70)
def wsX7_top : List Cond := .code yX7_top cX7_top 1 (some .int) :: ([.fieldLink RX7 7 "RingBasesModel" "w" "[I"] ++ wsX70)
def wsX7_layPowers : List Cond := .code yX7_layPowers cX7_layPowers 6 none :: ([.fieldLink RX7 29 "RingBasesModel" "powerM" "[J", .fieldLink RX7 32 "RingBasesModel" "powerN" "[J", .fieldLink RX7 65 "RingBasesModel" "high" "I", .fieldLink RX7 7 "RingBasesModel" "w" "[I", .methodLink RX7 68 yX7_signOf, .instanceMethod yX7_signOf, .selects RX7 yX7_signOf yX7_signOf, .initialized RX7, .code yX7_signOf cX7_signOf 8 (some .int), .constantLong RX7 48 (2), .methodLink RX7 50 yX7_signOne, .static yX7_signOne, .code yX7_signOne cX7_signOne 2 (some .int), .methodLink RX7 54 yX7_inside, .instanceMethod yX7_inside, .selects RX7 yX7_inside yX7_inside, .code yX7_inside cX7_inside 1 (some .long), .constantLong RX7 46 (4)] ++ wsX70)
def wsX7_wasAhead : List Cond := .code yX7_wasAhead cX7_wasAhead 3 (some .boolean) :: ([.fieldLink RX7 22 "RingBasesModel" "restM" "[J", .fieldLink RX7 26 "RingBasesModel" "restN" "[J", .fieldLink RX7 72 "RingBasesModel" "lead" "I", .fieldLink RX7 75 "RingBasesModel" "round" "I"] ++ wsX70)
def wsX7_layBehind_r1 : List Cond := [Cond.fieldLink RX7 78 "RingBasesModel" "behindMany" "I", Cond.fieldLink RX7 81 "RingBasesModel" "ends" "I", Cond.fieldLink RX7 72 "RingBasesModel" "lead" "I", Cond.fieldLink RX7 75 "RingBasesModel" "round" "I", Cond.fieldLink RX7 22 "RingBasesModel" "restM" "[J", Cond.fieldLink RX7 26 "RingBasesModel" "restN" "[J", Cond.fieldLink RX7 7 "RingBasesModel" "w" "[I", Cond.fieldLink RX7 19 "RingBasesModel" "behind" "[I", Cond.methodLink RX7 84 yX7_wasAhead, Cond.instanceMethod yX7_wasAhead, Cond.selects RX7 yX7_wasAhead yX7_wasAhead, Cond.initialized RX7, Cond.code yX7_wasAhead cX7_wasAhead 3 (some .boolean), Cond.methodLink RX7 88 yX7_wholeOf, Cond.instanceMethod yX7_wholeOf, Cond.selects RX7 yX7_wholeOf yX7_wholeOf, Cond.code yX7_wholeOf cX7_wholeOf 9 (some .long), Cond.constantLong RX7 48 (2), Cond.methodLink RX7 54 yX7_inside, Cond.instanceMethod yX7_inside, Cond.selects RX7 yX7_inside yX7_inside, Cond.code yX7_inside cX7_inside 1 (some .long), Cond.constantLong RX7 46 (4), Cond.methodLink RX7 58 yX7_rootOf]
def wsX7_layBehind_r2 : List Cond := [Cond.static yX7_rootOf, Cond.code yX7_rootOf cX7_rootOf 7 (some .long), Cond.methodLink RX7 62 yX7_halfDown, Cond.static yX7_halfDown, Cond.code yX7_halfDown cX7_halfDown 2 (some .long)]
def wsX7_layBehind : List Cond := .code yX7_layBehind cX7_layBehind 9 none :: ((wsX7_layBehind_r1 ++ wsX7_layBehind_r2) ++ wsX70)
def wsX7_layWritten_r1 : List Cond := [Cond.fieldLink RX7 65 "RingBasesModel" "high" "I", Cond.fieldLink RX7 29 "RingBasesModel" "powerM" "[J", Cond.fieldLink RX7 32 "RingBasesModel" "powerN" "[J", Cond.fieldLink RX7 16 "RingBasesModel" "ahead" "[I", Cond.fieldLink RX7 22 "RingBasesModel" "restM" "[J", Cond.fieldLink RX7 26 "RingBasesModel" "restN" "[J", Cond.methodLink RX7 92 yX7_layPowers, Cond.instanceMethod yX7_layPowers, Cond.selects RX7 yX7_layPowers yX7_layPowers, Cond.initialized RX7, Cond.code yX7_layPowers cX7_layPowers 6 none, Cond.fieldLink RX7 7 "RingBasesModel" "w" "[I", Cond.methodLink RX7 68 yX7_signOf, Cond.instanceMethod yX7_signOf, Cond.selects RX7 yX7_signOf yX7_signOf, Cond.code yX7_signOf cX7_signOf 8 (some .int), Cond.constantLong RX7 48 (2), Cond.methodLink RX7 50 yX7_signOne, Cond.static yX7_signOne, Cond.code yX7_signOne cX7_signOne 2 (some .int), Cond.methodLink RX7 54 yX7_inside, Cond.instanceMethod yX7_inside, Cond.selects RX7 yX7_inside yX7_inside, Cond.code yX7_inside cX7_inside 1 (some .long)]
def wsX7_layWritten_r2 : List Cond := [Cond.constantLong RX7 46 (4), Cond.methodLink RX7 96 yX7_layBehind, Cond.instanceMethod yX7_layBehind, Cond.selects RX7 yX7_layBehind yX7_layBehind, Cond.code yX7_layBehind cX7_layBehind 9 none, Cond.fieldLink RX7 78 "RingBasesModel" "behindMany" "I", Cond.fieldLink RX7 81 "RingBasesModel" "ends" "I", Cond.fieldLink RX7 72 "RingBasesModel" "lead" "I", Cond.fieldLink RX7 75 "RingBasesModel" "round" "I", Cond.fieldLink RX7 19 "RingBasesModel" "behind" "[I", Cond.methodLink RX7 84 yX7_wasAhead, Cond.instanceMethod yX7_wasAhead, Cond.selects RX7 yX7_wasAhead yX7_wasAhead, Cond.code yX7_wasAhead cX7_wasAhead 3 (some .boolean), Cond.methodLink RX7 88 yX7_wholeOf, Cond.instanceMethod yX7_wholeOf, Cond.selects RX7 yX7_wholeOf yX7_wholeOf, Cond.code yX7_wholeOf cX7_wholeOf 9 (some .long), Cond.methodLink RX7 58 yX7_rootOf, Cond.static yX7_rootOf, Cond.code yX7_rootOf cX7_rootOf 7 (some .long), Cond.methodLink RX7 62 yX7_halfDown, Cond.static yX7_halfDown, Cond.code yX7_halfDown cX7_halfDown 2 (some .long)]
def wsX7_layWritten : List Cond := .code yX7_layWritten cX7_layWritten 11 none :: ((wsX7_layWritten_r1 ++ wsX7_layWritten_r2) ++ wsX70)
def wsX7_figureAt : List Cond := .code yX7_figureAt cX7_figureAt 2 (some .int) :: ([.fieldLink RX7 65 "RingBasesModel" "high" "I", .fieldLink RX7 16 "RingBasesModel" "ahead" "[I", .fieldLink RX7 78 "RingBasesModel" "behindMany" "I", .fieldLink RX7 19 "RingBasesModel" "behind" "[I"] ++ wsX70)
def wsX7_figures : List Cond := .code yX7_figures cX7_figures 3 (some .int) :: ([.fieldLink RX7 99 "RingBasesModel" "size" "I", .fieldLink RX7 13 "RingBasesModel" "word" "[I"] ++ wsX70)
def wsX7_pointAt : List Cond := .code yX7_pointAt cX7_pointAt 3 (some .int) :: ([.fieldLink RX7 99 "RingBasesModel" "size" "I", .fieldLink RX7 13 "RingBasesModel" "word" "[I"] ++ wsX70)
def wsX7_layRow : List Cond := .code yX7_layRow cX7_layRow 3 none :: ([.fieldLink RX7 99 "RingBasesModel" "size" "I", .fieldLink RX7 13 "RingBasesModel" "word" "[I", .fieldLink RX7 35 "RingBasesModel" "row" "[I"] ++ wsX70)
def wsX7_oneAt : List Cond := .code yX7_oneAt cX7_oneAt 2 (some .int) :: ([.fieldLink RX7 7 "RingBasesModel" "w" "[I"] ++ wsX70)
def wsX7_isLess : List Cond := .code yX7_isLess cX7_isLess 5 (some .boolean) :: ([.fieldLink RX7 35 "RingBasesModel" "row" "[I", .methodLink RX7 102 yX7_oneAt, .instanceMethod yX7_oneAt, .selects RX7 yX7_oneAt yX7_oneAt, .initialized RX7, .code yX7_oneAt cX7_oneAt 2 (some .int), .fieldLink RX7 7 "RingBasesModel" "w" "[I"] ++ wsX70)
def wsX7_isWell : List Cond := .code yX7_isWell cX7_isWell 4 (some .boolean) :: ([.methodLink RX7 106 yX7_isLess, .instanceMethod yX7_isLess, .selects RX7 yX7_isLess yX7_isLess, .initialized RX7, .code yX7_isLess cX7_isLess 5 (some .boolean), .fieldLink RX7 35 "RingBasesModel" "row" "[I", .methodLink RX7 102 yX7_oneAt, .instanceMethod yX7_oneAt, .selects RX7 yX7_oneAt yX7_oneAt, .code yX7_oneAt cX7_oneAt 2 (some .int), .fieldLink RX7 7 "RingBasesModel" "w" "[I"] ++ wsX70)
def wsX7_badly_r1 : List Cond := [Cond.methodLink RX7 110 yX7_layRow, Cond.instanceMethod yX7_layRow, Cond.selects RX7 yX7_layRow yX7_layRow, Cond.initialized RX7, Cond.code yX7_layRow cX7_layRow 3 none, Cond.fieldLink RX7 99 "RingBasesModel" "size" "I", Cond.fieldLink RX7 13 "RingBasesModel" "word" "[I", Cond.fieldLink RX7 35 "RingBasesModel" "row" "[I", Cond.methodLink RX7 113 yX7_figures, Cond.instanceMethod yX7_figures, Cond.selects RX7 yX7_figures yX7_figures, Cond.code yX7_figures cX7_figures 3 (some .int), Cond.methodLink RX7 117 yX7_pointAt, Cond.instanceMethod yX7_pointAt, Cond.selects RX7 yX7_pointAt yX7_pointAt, Cond.code yX7_pointAt cX7_pointAt 3 (some .int), Cond.methodLink RX7 106 yX7_isLess, Cond.instanceMethod yX7_isLess, Cond.selects RX7 yX7_isLess yX7_isLess, Cond.code yX7_isLess cX7_isLess 5 (some .boolean), Cond.methodLink RX7 102 yX7_oneAt, Cond.instanceMethod yX7_oneAt, Cond.selects RX7 yX7_oneAt yX7_oneAt, Cond.code yX7_oneAt cX7_oneAt 2 (some .int)]
def wsX7_badly_r2 : List Cond := [Cond.fieldLink RX7 7 "RingBasesModel" "w" "[I"]
def wsX7_badly : List Cond := .code yX7_badly cX7_badly 4 (some .int) :: ((wsX7_badly_r1 ++ wsX7_badly_r2) ++ wsX70)
def wsX7_shiftNow : List Cond := .code yX7_shiftNow cX7_shiftNow 1 (some .int) :: ([.fieldLink RX7 99 "RingBasesModel" "size" "I", .methodLink RX7 117 yX7_pointAt, .instanceMethod yX7_pointAt, .selects RX7 yX7_pointAt yX7_pointAt, .initialized RX7, .code yX7_pointAt cX7_pointAt 3 (some .int), .fieldLink RX7 13 "RingBasesModel" "word" "[I"] ++ wsX70)
def wsX7_layWorth : List Cond := .code yX7_layWorth cX7_layWorth 5 (some .boolean) :: ([.fieldLink RX7 120 "RingBasesModel" "worthM" "J", .fieldLink RX7 124 "RingBasesModel" "worthN" "J", .fieldLink RX7 7 "RingBasesModel" "w" "[I", .fieldLink RX7 35 "RingBasesModel" "row" "[I", .constantLong RX7 127 (-999999), .constantLong RX7 129 (999999), .methodLink RX7 110 yX7_layRow, .instanceMethod yX7_layRow, .selects RX7 yX7_layRow yX7_layRow, .initialized RX7, .code yX7_layRow cX7_layRow 3 none, .fieldLink RX7 99 "RingBasesModel" "size" "I", .fieldLink RX7 13 "RingBasesModel" "word" "[I", .methodLink RX7 113 yX7_figures, .instanceMethod yX7_figures, .selects RX7 yX7_figures yX7_figures, .code yX7_figures cX7_figures 3 (some .int), .methodLink RX7 131 yX7_in, .static yX7_in, .code yX7_in cX7_in 6 (some .boolean)] ++ wsX70)
def wsX7_normalMany_r1 : List Cond := [Cond.constant RX7 139 (-2000000004), Cond.fieldLink RX7 120 "RingBasesModel" "worthM" "J", Cond.fieldLink RX7 124 "RingBasesModel" "worthN" "J", Cond.constant RX7 140 (-2000000003), Cond.fieldLink RX7 65 "RingBasesModel" "high" "I", Cond.fieldLink RX7 78 "RingBasesModel" "behindMany" "I", Cond.methodLink RX7 135 yX7_layWorth, Cond.instanceMethod yX7_layWorth, Cond.selects RX7 yX7_layWorth yX7_layWorth, Cond.initialized RX7, Cond.code yX7_layWorth cX7_layWorth 5 (some .boolean), Cond.fieldLink RX7 7 "RingBasesModel" "w" "[I", Cond.fieldLink RX7 35 "RingBasesModel" "row" "[I", Cond.constantLong RX7 127 (-999999), Cond.constantLong RX7 129 (999999), Cond.methodLink RX7 110 yX7_layRow, Cond.instanceMethod yX7_layRow, Cond.selects RX7 yX7_layRow yX7_layRow, Cond.code yX7_layRow cX7_layRow 3 none, Cond.fieldLink RX7 99 "RingBasesModel" "size" "I", Cond.fieldLink RX7 13 "RingBasesModel" "word" "[I", Cond.methodLink RX7 113 yX7_figures, Cond.instanceMethod yX7_figures, Cond.selects RX7 yX7_figures yX7_figures]
def wsX7_normalMany_r2 : List Cond := [Cond.code yX7_figures cX7_figures 3 (some .int), Cond.methodLink RX7 131 yX7_in, Cond.static yX7_in, Cond.code yX7_in cX7_in 6 (some .boolean), Cond.methodLink RX7 68 yX7_signOf, Cond.instanceMethod yX7_signOf, Cond.selects RX7 yX7_signOf yX7_signOf, Cond.code yX7_signOf cX7_signOf 8 (some .int), Cond.constantLong RX7 48 (2), Cond.methodLink RX7 50 yX7_signOne, Cond.static yX7_signOne, Cond.code yX7_signOne cX7_signOne 2 (some .int), Cond.methodLink RX7 54 yX7_inside, Cond.instanceMethod yX7_inside, Cond.selects RX7 yX7_inside yX7_inside, Cond.code yX7_inside cX7_inside 1 (some .long), Cond.constantLong RX7 46 (4), Cond.methodLink RX7 141 yX7_layWritten, Cond.instanceMethod yX7_layWritten, Cond.selects RX7 yX7_layWritten yX7_layWritten, Cond.code yX7_layWritten cX7_layWritten 11 none, Cond.fieldLink RX7 29 "RingBasesModel" "powerM" "[J", Cond.fieldLink RX7 32 "RingBasesModel" "powerN" "[J", Cond.fieldLink RX7 16 "RingBasesModel" "ahead" "[I"]
def wsX7_normalMany_r3 : List Cond := [Cond.fieldLink RX7 22 "RingBasesModel" "restM" "[J", Cond.fieldLink RX7 26 "RingBasesModel" "restN" "[J", Cond.methodLink RX7 92 yX7_layPowers, Cond.instanceMethod yX7_layPowers, Cond.selects RX7 yX7_layPowers yX7_layPowers, Cond.code yX7_layPowers cX7_layPowers 6 none, Cond.methodLink RX7 96 yX7_layBehind, Cond.instanceMethod yX7_layBehind, Cond.selects RX7 yX7_layBehind yX7_layBehind, Cond.code yX7_layBehind cX7_layBehind 9 none, Cond.fieldLink RX7 81 "RingBasesModel" "ends" "I", Cond.fieldLink RX7 72 "RingBasesModel" "lead" "I", Cond.fieldLink RX7 75 "RingBasesModel" "round" "I", Cond.fieldLink RX7 19 "RingBasesModel" "behind" "[I", Cond.methodLink RX7 84 yX7_wasAhead, Cond.instanceMethod yX7_wasAhead, Cond.selects RX7 yX7_wasAhead yX7_wasAhead, Cond.code yX7_wasAhead cX7_wasAhead 3 (some .boolean), Cond.methodLink RX7 88 yX7_wholeOf, Cond.instanceMethod yX7_wholeOf, Cond.selects RX7 yX7_wholeOf yX7_wholeOf, Cond.code yX7_wholeOf cX7_wholeOf 9 (some .long), Cond.methodLink RX7 58 yX7_rootOf, Cond.static yX7_rootOf]
def wsX7_normalMany_r4 : List Cond := [Cond.code yX7_rootOf cX7_rootOf 7 (some .long), Cond.methodLink RX7 62 yX7_halfDown, Cond.static yX7_halfDown, Cond.code yX7_halfDown cX7_halfDown 2 (some .long)]
def wsX7_normalMany : List Cond := .code yX7_normalMany cX7_normalMany 1 (some .int) :: ((wsX7_normalMany_r1 ++ (wsX7_normalMany_r2 ++ (wsX7_normalMany_r3 ++ wsX7_normalMany_r4))) ++ wsX70)
def wsX7_layNext_r1 : List Cond := [Cond.fieldLink RX7 35 "RingBasesModel" "row" "[I", Cond.methodLink RX7 113 yX7_figures, Cond.instanceMethod yX7_figures, Cond.selects RX7 yX7_figures yX7_figures, Cond.initialized RX7, Cond.code yX7_figures cX7_figures 3 (some .int), Cond.fieldLink RX7 99 "RingBasesModel" "size" "I", Cond.fieldLink RX7 13 "RingBasesModel" "word" "[I", Cond.methodLink RX7 110 yX7_layRow, Cond.instanceMethod yX7_layRow, Cond.selects RX7 yX7_layRow yX7_layRow, Cond.code yX7_layRow cX7_layRow 3 none, Cond.methodLink RX7 144 yX7_isWell, Cond.instanceMethod yX7_isWell, Cond.selects RX7 yX7_isWell yX7_isWell, Cond.code yX7_isWell cX7_isWell 4 (some .boolean), Cond.methodLink RX7 106 yX7_isLess, Cond.instanceMethod yX7_isLess, Cond.selects RX7 yX7_isLess yX7_isLess, Cond.code yX7_isLess cX7_isLess 5 (some .boolean), Cond.methodLink RX7 102 yX7_oneAt, Cond.instanceMethod yX7_oneAt, Cond.selects RX7 yX7_oneAt yX7_oneAt, Cond.code yX7_oneAt cX7_oneAt 2 (some .int)]
def wsX7_layNext_r2 : List Cond := [Cond.fieldLink RX7 7 "RingBasesModel" "w" "[I"]
def wsX7_layNext : List Cond := .code yX7_layNext cX7_layNext 5 (some .boolean) :: ((wsX7_layNext_r1 ++ wsX7_layNext_r2) ++ wsX70)
def wsX7_isShelf : List Cond := .code yX7_isShelf cX7_isShelf 1 (some .boolean) :: ([.constantLong RX7 147 (3), .methodLink RX7 131 yX7_in, .static yX7_in, .initialized RX7, .code yX7_in cX7_in 6 (some .boolean)])
def wsX7_mOf : List Cond := .code yX7_mOf cX7_mOf 2 (some .int) :: ([.fieldLink RX7 7 "RingBasesModel" "w" "[I"] ++ wsX70)
def wsX7_nOf : List Cond := .code yX7_nOf cX7_nOf 2 (some .int) :: ([.fieldLink RX7 7 "RingBasesModel" "w" "[I"] ++ wsX70)
def wsX7_set : List Cond := .code yX7_set cX7_set 6 (some .int) :: ([.fieldLink RX7 7 "RingBasesModel" "w" "[I", .methodLink RX7 149 yX7_remember, .instanceMethod yX7_remember, .selects RX7 yX7_remember yX7_remember, .initialized RX7, .code yX7_remember cX7_remember 2 none, .fieldLink RX7 42 "RingBasesModel" "known" "I", .methodLink RX7 38 yX7_copyRow, .instanceMethod yX7_copyRow, .selects RX7 yX7_copyRow yX7_copyRow, .code yX7_copyRow cX7_copyRow 4 none, .methodLink RX7 68 yX7_signOf, .instanceMethod yX7_signOf, .selects RX7 yX7_signOf yX7_signOf, .code yX7_signOf cX7_signOf 8 (some .int), .constantLong RX7 48 (2), .methodLink RX7 50 yX7_signOne, .static yX7_signOne, .code yX7_signOne cX7_signOne 2 (some .int), .methodLink RX7 54 yX7_inside, .instanceMethod yX7_inside, .selects RX7 yX7_inside yX7_inside, .code yX7_inside cX7_inside 1 (some .long), .constantLong RX7 46 (4)] ++ wsX70)
def wsX7_base : List Cond := .code yX7_base cX7_base 4 (some .int) :: ([.constantLong RX7 152 (9), .constantLong RX7 154 (-1), .constant RX7 156 (-2000000002), .fieldLink RX7 7 "RingBasesModel" "w" "[I", .methodLink RX7 131 yX7_in, .static yX7_in, .initialized RX7, .code yX7_in cX7_in 6 (some .boolean), .methodLink RX7 149 yX7_remember, .instanceMethod yX7_remember, .selects RX7 yX7_remember yX7_remember, .code yX7_remember cX7_remember 2 none, .fieldLink RX7 42 "RingBasesModel" "known" "I", .methodLink RX7 38 yX7_copyRow, .instanceMethod yX7_copyRow, .selects RX7 yX7_copyRow yX7_copyRow, .code yX7_copyRow cX7_copyRow 4 none, .methodLink RX7 157 yX7_top, .instanceMethod yX7_top, .selects RX7 yX7_top yX7_top, .code yX7_top cX7_top 1 (some .int)] ++ wsX70)
def wsX7_put_r1 : List Cond := [Cond.constant RX7 163 (-2000000001), Cond.constantLong RX7 127 (-999999), Cond.constantLong RX7 129 (999999), Cond.constant RX7 156 (-2000000002), Cond.methodLink RX7 160 yX7_isShelf, Cond.static yX7_isShelf, Cond.initialized RX7, Cond.code yX7_isShelf cX7_isShelf 1 (some .boolean), Cond.constantLong RX7 147 (3), Cond.methodLink RX7 131 yX7_in, Cond.static yX7_in, Cond.code yX7_in cX7_in 6 (some .boolean), Cond.methodLink RX7 164 yX7_set, Cond.instanceMethod yX7_set, Cond.selects RX7 yX7_set yX7_set, Cond.code yX7_set cX7_set 6 (some .int), Cond.fieldLink RX7 7 "RingBasesModel" "w" "[I", Cond.methodLink RX7 149 yX7_remember, Cond.instanceMethod yX7_remember, Cond.selects RX7 yX7_remember yX7_remember, Cond.code yX7_remember cX7_remember 2 none, Cond.fieldLink RX7 42 "RingBasesModel" "known" "I", Cond.methodLink RX7 38 yX7_copyRow, Cond.instanceMethod yX7_copyRow]
def wsX7_put_r2 : List Cond := [Cond.selects RX7 yX7_copyRow yX7_copyRow, Cond.code yX7_copyRow cX7_copyRow 4 none, Cond.methodLink RX7 68 yX7_signOf, Cond.instanceMethod yX7_signOf, Cond.selects RX7 yX7_signOf yX7_signOf, Cond.code yX7_signOf cX7_signOf 8 (some .int), Cond.constantLong RX7 48 (2), Cond.methodLink RX7 50 yX7_signOne, Cond.static yX7_signOne, Cond.code yX7_signOne cX7_signOne 2 (some .int), Cond.methodLink RX7 54 yX7_inside, Cond.instanceMethod yX7_inside, Cond.selects RX7 yX7_inside yX7_inside, Cond.code yX7_inside cX7_inside 1 (some .long), Cond.constantLong RX7 46 (4)]
def wsX7_put : List Cond := .code yX7_put cX7_put 4 (some .int) :: ((wsX7_put_r1 ++ wsX7_put_r2) ++ wsX70)
def wsX7_setIn_r1 : List Cond := [Cond.constantLong RX7 127 (-999999), Cond.constantLong RX7 129 (999999), Cond.constant RX7 139 (-2000000004), Cond.methodLink RX7 131 yX7_in, Cond.static yX7_in, Cond.initialized RX7, Cond.code yX7_in cX7_in 6 (some .boolean), Cond.methodLink RX7 164 yX7_set, Cond.instanceMethod yX7_set, Cond.selects RX7 yX7_set yX7_set, Cond.code yX7_set cX7_set 6 (some .int), Cond.fieldLink RX7 7 "RingBasesModel" "w" "[I", Cond.methodLink RX7 149 yX7_remember, Cond.instanceMethod yX7_remember, Cond.selects RX7 yX7_remember yX7_remember, Cond.code yX7_remember cX7_remember 2 none, Cond.fieldLink RX7 42 "RingBasesModel" "known" "I", Cond.methodLink RX7 38 yX7_copyRow, Cond.instanceMethod yX7_copyRow, Cond.selects RX7 yX7_copyRow yX7_copyRow, Cond.code yX7_copyRow cX7_copyRow 4 none, Cond.methodLink RX7 68 yX7_signOf, Cond.instanceMethod yX7_signOf, Cond.selects RX7 yX7_signOf yX7_signOf]
def wsX7_setIn_r2 : List Cond := [Cond.code yX7_signOf cX7_signOf 8 (some .int), Cond.constantLong RX7 48 (2), Cond.methodLink RX7 50 yX7_signOne, Cond.static yX7_signOne, Cond.code yX7_signOne cX7_signOne 2 (some .int), Cond.methodLink RX7 54 yX7_inside, Cond.instanceMethod yX7_inside, Cond.selects RX7 yX7_inside yX7_inside, Cond.code yX7_inside cX7_inside 1 (some .long), Cond.constantLong RX7 46 (4)]
def wsX7_setIn : List Cond := .code yX7_setIn cX7_setIn 6 (some .int) :: ((wsX7_setIn_r1 ++ wsX7_setIn_r2) ++ wsX70)
def wsX7_deed_r1 : List Cond := [Cond.constant RX7 163 (-2000000001), Cond.fieldLink RX7 7 "RingBasesModel" "w" "[I", Cond.constant RX7 156 (-2000000002), Cond.methodLink RX7 160 yX7_isShelf, Cond.static yX7_isShelf, Cond.initialized RX7, Cond.code yX7_isShelf cX7_isShelf 1 (some .boolean), Cond.constantLong RX7 147 (3), Cond.methodLink RX7 131 yX7_in, Cond.static yX7_in, Cond.code yX7_in cX7_in 6 (some .boolean), Cond.methodLink RX7 168 yX7_mOf, Cond.instanceMethod yX7_mOf, Cond.selects RX7 yX7_mOf yX7_mOf, Cond.code yX7_mOf cX7_mOf 2 (some .int), Cond.methodLink RX7 171 yX7_nOf, Cond.instanceMethod yX7_nOf, Cond.selects RX7 yX7_nOf yX7_nOf, Cond.code yX7_nOf cX7_nOf 2 (some .int), Cond.methodLink RX7 174 yX7_setIn, Cond.instanceMethod yX7_setIn, Cond.selects RX7 yX7_setIn yX7_setIn, Cond.code yX7_setIn cX7_setIn 6 (some .int), Cond.constantLong RX7 127 (-999999)]
def wsX7_deed_r2 : List Cond := [Cond.constantLong RX7 129 (999999), Cond.constant RX7 139 (-2000000004), Cond.methodLink RX7 164 yX7_set, Cond.instanceMethod yX7_set, Cond.selects RX7 yX7_set yX7_set, Cond.code yX7_set cX7_set 6 (some .int), Cond.methodLink RX7 149 yX7_remember, Cond.instanceMethod yX7_remember, Cond.selects RX7 yX7_remember yX7_remember, Cond.code yX7_remember cX7_remember 2 none, Cond.fieldLink RX7 42 "RingBasesModel" "known" "I", Cond.methodLink RX7 38 yX7_copyRow, Cond.instanceMethod yX7_copyRow, Cond.selects RX7 yX7_copyRow yX7_copyRow, Cond.code yX7_copyRow cX7_copyRow 4 none, Cond.methodLink RX7 68 yX7_signOf, Cond.instanceMethod yX7_signOf, Cond.selects RX7 yX7_signOf yX7_signOf, Cond.code yX7_signOf cX7_signOf 8 (some .int), Cond.constantLong RX7 48 (2), Cond.methodLink RX7 50 yX7_signOne, Cond.static yX7_signOne, Cond.code yX7_signOne cX7_signOne 2 (some .int), Cond.methodLink RX7 54 yX7_inside]
def wsX7_deed_r3 : List Cond := [Cond.instanceMethod yX7_inside, Cond.selects RX7 yX7_inside yX7_inside, Cond.code yX7_inside cX7_inside 1 (some .long), Cond.constantLong RX7 46 (4)]
def wsX7_deed : List Cond := .code yX7_deed cX7_deed 13 (some .int) :: ((wsX7_deed_r1 ++ (wsX7_deed_r2 ++ wsX7_deed_r3)) ++ wsX70)
def wsX7_drift_r1 : List Cond := [Cond.constant RX7 163 (-2000000001), Cond.constantLong RX7 129 (999999), Cond.constant RX7 156 (-2000000002), Cond.constantLong RX7 177 (16807), Cond.constantLong RX7 179 (2147483647), Cond.constantLong RX7 181 (2001), Cond.constantLong RX7 183 (1000), Cond.methodLink RX7 160 yX7_isShelf, Cond.static yX7_isShelf, Cond.initialized RX7, Cond.code yX7_isShelf cX7_isShelf 1 (some .boolean), Cond.constantLong RX7 147 (3), Cond.methodLink RX7 131 yX7_in, Cond.static yX7_in, Cond.code yX7_in cX7_in 6 (some .boolean), Cond.methodLink RX7 68 yX7_signOf, Cond.instanceMethod yX7_signOf, Cond.selects RX7 yX7_signOf yX7_signOf, Cond.code yX7_signOf cX7_signOf 8 (some .int), Cond.constantLong RX7 48 (2), Cond.fieldLink RX7 7 "RingBasesModel" "w" "[I", Cond.methodLink RX7 50 yX7_signOne, Cond.static yX7_signOne, Cond.code yX7_signOne cX7_signOne 2 (some .int)]
def wsX7_drift_r2 : List Cond := [Cond.methodLink RX7 54 yX7_inside, Cond.instanceMethod yX7_inside, Cond.selects RX7 yX7_inside yX7_inside, Cond.code yX7_inside cX7_inside 1 (some .long), Cond.constantLong RX7 46 (4), Cond.methodLink RX7 164 yX7_set, Cond.instanceMethod yX7_set, Cond.selects RX7 yX7_set yX7_set, Cond.code yX7_set cX7_set 6 (some .int), Cond.methodLink RX7 149 yX7_remember, Cond.instanceMethod yX7_remember, Cond.selects RX7 yX7_remember yX7_remember, Cond.code yX7_remember cX7_remember 2 none, Cond.fieldLink RX7 42 "RingBasesModel" "known" "I", Cond.methodLink RX7 38 yX7_copyRow, Cond.instanceMethod yX7_copyRow, Cond.selects RX7 yX7_copyRow yX7_copyRow, Cond.code yX7_copyRow cX7_copyRow 4 none, Cond.methodLink RX7 168 yX7_mOf, Cond.instanceMethod yX7_mOf, Cond.selects RX7 yX7_mOf yX7_mOf, Cond.code yX7_mOf cX7_mOf 2 (some .int)]
def wsX7_drift : List Cond := .code yX7_drift cX7_drift 11 (some .int) :: ((wsX7_drift_r1 ++ wsX7_drift_r2) ++ wsX70)
def wsX7_undo : List Cond := .code yX7_undo cX7_undo 2 (some .int) :: ([.fieldLink RX7 42 "RingBasesModel" "known" "I", .constant RX7 140 (-2000000003), .methodLink RX7 38 yX7_copyRow, .instanceMethod yX7_copyRow, .selects RX7 yX7_copyRow yX7_copyRow, .initialized RX7, .code yX7_copyRow cX7_copyRow 4 none, .fieldLink RX7 7 "RingBasesModel" "w" "[I"] ++ wsX70)
def wsX7_well_r1 : List Cond := [Cond.methodLink RX7 110 yX7_layRow, Cond.instanceMethod yX7_layRow, Cond.selects RX7 yX7_layRow yX7_layRow, Cond.initialized RX7, Cond.code yX7_layRow cX7_layRow 3 none, Cond.fieldLink RX7 99 "RingBasesModel" "size" "I", Cond.fieldLink RX7 13 "RingBasesModel" "word" "[I", Cond.fieldLink RX7 35 "RingBasesModel" "row" "[I", Cond.methodLink RX7 113 yX7_figures, Cond.instanceMethod yX7_figures, Cond.selects RX7 yX7_figures yX7_figures, Cond.code yX7_figures cX7_figures 3 (some .int), Cond.methodLink RX7 144 yX7_isWell, Cond.instanceMethod yX7_isWell, Cond.selects RX7 yX7_isWell yX7_isWell, Cond.code yX7_isWell cX7_isWell 4 (some .boolean), Cond.methodLink RX7 106 yX7_isLess, Cond.instanceMethod yX7_isLess, Cond.selects RX7 yX7_isLess yX7_isLess, Cond.code yX7_isLess cX7_isLess 5 (some .boolean), Cond.methodLink RX7 102 yX7_oneAt, Cond.instanceMethod yX7_oneAt, Cond.selects RX7 yX7_oneAt yX7_oneAt, Cond.code yX7_oneAt cX7_oneAt 2 (some .int)]
def wsX7_well_r2 : List Cond := [Cond.fieldLink RX7 7 "RingBasesModel" "w" "[I"]
def wsX7_well : List Cond := .code yX7_well cX7_well 1 (some .int) :: ((wsX7_well_r1 ++ wsX7_well_r2) ++ wsX70)
def wsX7_worth_r1 : List Cond := [Cond.constant RX7 139 (-2000000004), Cond.fieldLink RX7 120 "RingBasesModel" "worthM" "J", Cond.fieldLink RX7 124 "RingBasesModel" "worthN" "J", Cond.constant RX7 185 (1000000), Cond.methodLink RX7 135 yX7_layWorth, Cond.instanceMethod yX7_layWorth, Cond.selects RX7 yX7_layWorth yX7_layWorth, Cond.initialized RX7, Cond.code yX7_layWorth cX7_layWorth 5 (some .boolean), Cond.fieldLink RX7 7 "RingBasesModel" "w" "[I", Cond.fieldLink RX7 35 "RingBasesModel" "row" "[I", Cond.constantLong RX7 127 (-999999), Cond.constantLong RX7 129 (999999), Cond.methodLink RX7 110 yX7_layRow, Cond.instanceMethod yX7_layRow, Cond.selects RX7 yX7_layRow yX7_layRow, Cond.code yX7_layRow cX7_layRow 3 none, Cond.fieldLink RX7 99 "RingBasesModel" "size" "I", Cond.fieldLink RX7 13 "RingBasesModel" "word" "[I", Cond.methodLink RX7 113 yX7_figures, Cond.instanceMethod yX7_figures, Cond.selects RX7 yX7_figures yX7_figures, Cond.code yX7_figures cX7_figures 3 (some .int), Cond.methodLink RX7 131 yX7_in]
def wsX7_worth_r2 : List Cond := [Cond.static yX7_in, Cond.code yX7_in cX7_in 6 (some .boolean)]
def wsX7_worth : List Cond := .code yX7_worth cX7_worth 2 (some .int) :: ((wsX7_worth_r1 ++ wsX7_worth_r2) ++ wsX70)
def wsX7_told_r1 : List Cond := [Cond.fieldLink RX7 7 "RingBasesModel" "w" "[I", Cond.fieldLink RX7 99 "RingBasesModel" "size" "I", Cond.fieldLink RX7 42 "RingBasesModel" "known" "I", Cond.constant RX7 156 (-2000000002), Cond.methodLink RX7 157 yX7_top, Cond.instanceMethod yX7_top, Cond.selects RX7 yX7_top yX7_top, Cond.initialized RX7, Cond.code yX7_top cX7_top 1 (some .int), Cond.methodLink RX7 88 yX7_wholeOf, Cond.instanceMethod yX7_wholeOf, Cond.selects RX7 yX7_wholeOf yX7_wholeOf, Cond.code yX7_wholeOf cX7_wholeOf 9 (some .long), Cond.constantLong RX7 48 (2), Cond.methodLink RX7 54 yX7_inside, Cond.instanceMethod yX7_inside, Cond.selects RX7 yX7_inside yX7_inside, Cond.code yX7_inside cX7_inside 1 (some .long), Cond.constantLong RX7 46 (4), Cond.methodLink RX7 58 yX7_rootOf, Cond.static yX7_rootOf, Cond.code yX7_rootOf cX7_rootOf 7 (some .long), Cond.methodLink RX7 62 yX7_halfDown, Cond.static yX7_halfDown]
def wsX7_told_r2 : List Cond := [Cond.code yX7_halfDown cX7_halfDown 2 (some .long), Cond.methodLink RX7 186 yX7_well, Cond.instanceMethod yX7_well, Cond.selects RX7 yX7_well yX7_well, Cond.code yX7_well cX7_well 1 (some .int), Cond.methodLink RX7 110 yX7_layRow, Cond.instanceMethod yX7_layRow, Cond.selects RX7 yX7_layRow yX7_layRow, Cond.code yX7_layRow cX7_layRow 3 none, Cond.fieldLink RX7 13 "RingBasesModel" "word" "[I", Cond.fieldLink RX7 35 "RingBasesModel" "row" "[I", Cond.methodLink RX7 113 yX7_figures, Cond.instanceMethod yX7_figures, Cond.selects RX7 yX7_figures yX7_figures, Cond.code yX7_figures cX7_figures 3 (some .int), Cond.methodLink RX7 144 yX7_isWell, Cond.instanceMethod yX7_isWell, Cond.selects RX7 yX7_isWell yX7_isWell, Cond.code yX7_isWell cX7_isWell 4 (some .boolean), Cond.methodLink RX7 106 yX7_isLess, Cond.instanceMethod yX7_isLess, Cond.selects RX7 yX7_isLess yX7_isLess, Cond.code yX7_isLess cX7_isLess 5 (some .boolean), Cond.methodLink RX7 102 yX7_oneAt]
def wsX7_told_r3 : List Cond := [Cond.instanceMethod yX7_oneAt, Cond.selects RX7 yX7_oneAt yX7_oneAt, Cond.code yX7_oneAt cX7_oneAt 2 (some .int), Cond.methodLink RX7 189 yX7_badly, Cond.instanceMethod yX7_badly, Cond.selects RX7 yX7_badly yX7_badly, Cond.code yX7_badly cX7_badly 4 (some .int), Cond.methodLink RX7 117 yX7_pointAt, Cond.instanceMethod yX7_pointAt, Cond.selects RX7 yX7_pointAt yX7_pointAt, Cond.code yX7_pointAt cX7_pointAt 3 (some .int), Cond.methodLink RX7 192 yX7_shiftNow, Cond.instanceMethod yX7_shiftNow, Cond.selects RX7 yX7_shiftNow yX7_shiftNow, Cond.code yX7_shiftNow cX7_shiftNow 1 (some .int), Cond.methodLink RX7 195 yX7_worth, Cond.instanceMethod yX7_worth, Cond.selects RX7 yX7_worth yX7_worth, Cond.code yX7_worth cX7_worth 2 (some .int), Cond.constant RX7 139 (-2000000004), Cond.fieldLink RX7 120 "RingBasesModel" "worthM" "J", Cond.fieldLink RX7 124 "RingBasesModel" "worthN" "J", Cond.constant RX7 185 (1000000), Cond.methodLink RX7 135 yX7_layWorth]
def wsX7_told_r4 : List Cond := [Cond.instanceMethod yX7_layWorth, Cond.selects RX7 yX7_layWorth yX7_layWorth, Cond.code yX7_layWorth cX7_layWorth 5 (some .boolean), Cond.constantLong RX7 127 (-999999), Cond.constantLong RX7 129 (999999), Cond.methodLink RX7 131 yX7_in, Cond.static yX7_in, Cond.code yX7_in cX7_in 6 (some .boolean), Cond.methodLink RX7 198 yX7_normalMany, Cond.instanceMethod yX7_normalMany, Cond.selects RX7 yX7_normalMany yX7_normalMany, Cond.code yX7_normalMany cX7_normalMany 1 (some .int), Cond.constant RX7 140 (-2000000003), Cond.fieldLink RX7 65 "RingBasesModel" "high" "I", Cond.fieldLink RX7 78 "RingBasesModel" "behindMany" "I", Cond.methodLink RX7 68 yX7_signOf, Cond.instanceMethod yX7_signOf, Cond.selects RX7 yX7_signOf yX7_signOf, Cond.code yX7_signOf cX7_signOf 8 (some .int), Cond.methodLink RX7 50 yX7_signOne, Cond.static yX7_signOne, Cond.code yX7_signOne cX7_signOne 2 (some .int), Cond.methodLink RX7 141 yX7_layWritten, Cond.instanceMethod yX7_layWritten]
def wsX7_told_r5 : List Cond := [Cond.selects RX7 yX7_layWritten yX7_layWritten, Cond.code yX7_layWritten cX7_layWritten 11 none, Cond.fieldLink RX7 29 "RingBasesModel" "powerM" "[J", Cond.fieldLink RX7 32 "RingBasesModel" "powerN" "[J", Cond.fieldLink RX7 16 "RingBasesModel" "ahead" "[I", Cond.fieldLink RX7 22 "RingBasesModel" "restM" "[J", Cond.fieldLink RX7 26 "RingBasesModel" "restN" "[J", Cond.methodLink RX7 92 yX7_layPowers, Cond.instanceMethod yX7_layPowers, Cond.selects RX7 yX7_layPowers yX7_layPowers, Cond.code yX7_layPowers cX7_layPowers 6 none, Cond.methodLink RX7 96 yX7_layBehind, Cond.instanceMethod yX7_layBehind, Cond.selects RX7 yX7_layBehind yX7_layBehind, Cond.code yX7_layBehind cX7_layBehind 9 none, Cond.fieldLink RX7 81 "RingBasesModel" "ends" "I", Cond.fieldLink RX7 72 "RingBasesModel" "lead" "I", Cond.fieldLink RX7 75 "RingBasesModel" "round" "I", Cond.fieldLink RX7 19 "RingBasesModel" "behind" "[I", Cond.methodLink RX7 84 yX7_wasAhead, Cond.instanceMethod yX7_wasAhead, Cond.selects RX7 yX7_wasAhead yX7_wasAhead, Cond.code yX7_wasAhead cX7_wasAhead 3 (some .boolean)]
def wsX7_told : List Cond := .code yX7_told cX7_told 2 (some .int) :: ((wsX7_told_r1 ++ (wsX7_told_r2 ++ (wsX7_told_r3 ++ (wsX7_told_r4 ++ wsX7_told_r5)))) ++ wsX70)
def wsX7_writtenOf_r1 : List Cond := [Cond.constant RX7 140 (-2000000003), Cond.fieldLink RX7 65 "RingBasesModel" "high" "I", Cond.fieldLink RX7 78 "RingBasesModel" "behindMany" "I", Cond.fieldLink RX7 81 "RingBasesModel" "ends" "I", Cond.fieldLink RX7 72 "RingBasesModel" "lead" "I", Cond.fieldLink RX7 75 "RingBasesModel" "round" "I", Cond.methodLink RX7 168 yX7_mOf, Cond.instanceMethod yX7_mOf, Cond.selects RX7 yX7_mOf yX7_mOf, Cond.initialized RX7, Cond.code yX7_mOf cX7_mOf 2 (some .int), Cond.fieldLink RX7 7 "RingBasesModel" "w" "[I", Cond.methodLink RX7 171 yX7_nOf, Cond.instanceMethod yX7_nOf, Cond.selects RX7 yX7_nOf yX7_nOf, Cond.code yX7_nOf cX7_nOf 2 (some .int), Cond.methodLink RX7 68 yX7_signOf, Cond.instanceMethod yX7_signOf, Cond.selects RX7 yX7_signOf yX7_signOf, Cond.code yX7_signOf cX7_signOf 8 (some .int), Cond.constantLong RX7 48 (2), Cond.methodLink RX7 50 yX7_signOne, Cond.static yX7_signOne, Cond.code yX7_signOne cX7_signOne 2 (some .int)]
def wsX7_writtenOf_r2 : List Cond := [Cond.methodLink RX7 54 yX7_inside, Cond.instanceMethod yX7_inside, Cond.selects RX7 yX7_inside yX7_inside, Cond.code yX7_inside cX7_inside 1 (some .long), Cond.constantLong RX7 46 (4), Cond.methodLink RX7 141 yX7_layWritten, Cond.instanceMethod yX7_layWritten, Cond.selects RX7 yX7_layWritten yX7_layWritten, Cond.code yX7_layWritten cX7_layWritten 11 none, Cond.fieldLink RX7 29 "RingBasesModel" "powerM" "[J", Cond.fieldLink RX7 32 "RingBasesModel" "powerN" "[J", Cond.fieldLink RX7 16 "RingBasesModel" "ahead" "[I", Cond.fieldLink RX7 22 "RingBasesModel" "restM" "[J", Cond.fieldLink RX7 26 "RingBasesModel" "restN" "[J", Cond.methodLink RX7 92 yX7_layPowers, Cond.instanceMethod yX7_layPowers, Cond.selects RX7 yX7_layPowers yX7_layPowers, Cond.code yX7_layPowers cX7_layPowers 6 none, Cond.methodLink RX7 96 yX7_layBehind, Cond.instanceMethod yX7_layBehind, Cond.selects RX7 yX7_layBehind yX7_layBehind, Cond.code yX7_layBehind cX7_layBehind 9 none, Cond.fieldLink RX7 19 "RingBasesModel" "behind" "[I", Cond.methodLink RX7 84 yX7_wasAhead]
def wsX7_writtenOf_r3 : List Cond := [Cond.instanceMethod yX7_wasAhead, Cond.selects RX7 yX7_wasAhead yX7_wasAhead, Cond.code yX7_wasAhead cX7_wasAhead 3 (some .boolean), Cond.methodLink RX7 88 yX7_wholeOf, Cond.instanceMethod yX7_wholeOf, Cond.selects RX7 yX7_wholeOf yX7_wholeOf, Cond.code yX7_wholeOf cX7_wholeOf 9 (some .long), Cond.methodLink RX7 58 yX7_rootOf, Cond.static yX7_rootOf, Cond.code yX7_rootOf cX7_rootOf 7 (some .long), Cond.methodLink RX7 62 yX7_halfDown, Cond.static yX7_halfDown, Cond.code yX7_halfDown cX7_halfDown 2 (some .long)]
def wsX7_writtenOf : List Cond := .code yX7_writtenOf cX7_writtenOf 3 (some .int) :: ((wsX7_writtenOf_r1 ++ (wsX7_writtenOf_r2 ++ wsX7_writtenOf_r3)) ++ wsX70)
def wsX7_shelf_r1 : List Cond := [Cond.constant RX7 163 (-2000000001), Cond.constantLong RX7 147 (3), Cond.constantLong RX7 201 (7), Cond.constant RX7 156 (-2000000002), Cond.methodLink RX7 160 yX7_isShelf, Cond.static yX7_isShelf, Cond.initialized RX7, Cond.code yX7_isShelf cX7_isShelf 1 (some .boolean), Cond.methodLink RX7 131 yX7_in, Cond.static yX7_in, Cond.code yX7_in cX7_in 6 (some .boolean), Cond.methodLink RX7 168 yX7_mOf, Cond.instanceMethod yX7_mOf, Cond.selects RX7 yX7_mOf yX7_mOf, Cond.code yX7_mOf cX7_mOf 2 (some .int), Cond.fieldLink RX7 7 "RingBasesModel" "w" "[I", Cond.methodLink RX7 171 yX7_nOf, Cond.instanceMethod yX7_nOf, Cond.selects RX7 yX7_nOf yX7_nOf, Cond.code yX7_nOf cX7_nOf 2 (some .int), Cond.methodLink RX7 68 yX7_signOf, Cond.instanceMethod yX7_signOf, Cond.selects RX7 yX7_signOf yX7_signOf, Cond.code yX7_signOf cX7_signOf 8 (some .int)]
def wsX7_shelf_r2 : List Cond := [Cond.constantLong RX7 48 (2), Cond.methodLink RX7 50 yX7_signOne, Cond.static yX7_signOne, Cond.code yX7_signOne cX7_signOne 2 (some .int), Cond.methodLink RX7 54 yX7_inside, Cond.instanceMethod yX7_inside, Cond.selects RX7 yX7_inside yX7_inside, Cond.code yX7_inside cX7_inside 1 (some .long), Cond.constantLong RX7 46 (4), Cond.methodLink RX7 88 yX7_wholeOf, Cond.instanceMethod yX7_wholeOf, Cond.selects RX7 yX7_wholeOf yX7_wholeOf, Cond.code yX7_wholeOf cX7_wholeOf 9 (some .long), Cond.methodLink RX7 58 yX7_rootOf, Cond.static yX7_rootOf, Cond.code yX7_rootOf cX7_rootOf 7 (some .long), Cond.methodLink RX7 62 yX7_halfDown, Cond.static yX7_halfDown, Cond.code yX7_halfDown cX7_halfDown 2 (some .long), Cond.methodLink RX7 203 yX7_writtenOf, Cond.instanceMethod yX7_writtenOf, Cond.selects RX7 yX7_writtenOf yX7_writtenOf, Cond.code yX7_writtenOf cX7_writtenOf 3 (some .int), Cond.constant RX7 140 (-2000000003)]
def wsX7_shelf_r3 : List Cond := [Cond.fieldLink RX7 65 "RingBasesModel" "high" "I", Cond.fieldLink RX7 78 "RingBasesModel" "behindMany" "I", Cond.fieldLink RX7 81 "RingBasesModel" "ends" "I", Cond.fieldLink RX7 72 "RingBasesModel" "lead" "I", Cond.fieldLink RX7 75 "RingBasesModel" "round" "I", Cond.methodLink RX7 141 yX7_layWritten, Cond.instanceMethod yX7_layWritten, Cond.selects RX7 yX7_layWritten yX7_layWritten, Cond.code yX7_layWritten cX7_layWritten 11 none, Cond.fieldLink RX7 29 "RingBasesModel" "powerM" "[J", Cond.fieldLink RX7 32 "RingBasesModel" "powerN" "[J", Cond.fieldLink RX7 16 "RingBasesModel" "ahead" "[I", Cond.fieldLink RX7 22 "RingBasesModel" "restM" "[J", Cond.fieldLink RX7 26 "RingBasesModel" "restN" "[J", Cond.methodLink RX7 92 yX7_layPowers, Cond.instanceMethod yX7_layPowers, Cond.selects RX7 yX7_layPowers yX7_layPowers, Cond.code yX7_layPowers cX7_layPowers 6 none, Cond.methodLink RX7 96 yX7_layBehind, Cond.instanceMethod yX7_layBehind, Cond.selects RX7 yX7_layBehind yX7_layBehind, Cond.code yX7_layBehind cX7_layBehind 9 none, Cond.fieldLink RX7 19 "RingBasesModel" "behind" "[I", Cond.methodLink RX7 84 yX7_wasAhead]
def wsX7_shelf_r4 : List Cond := [Cond.instanceMethod yX7_wasAhead, Cond.selects RX7 yX7_wasAhead yX7_wasAhead, Cond.code yX7_wasAhead cX7_wasAhead 3 (some .boolean)]
def wsX7_shelf : List Cond := .code yX7_shelf cX7_shelf 3 (some .int) :: ((wsX7_shelf_r1 ++ (wsX7_shelf_r2 ++ (wsX7_shelf_r3 ++ wsX7_shelf_r4))) ++ wsX70)
def wsX7_figure_r1 : List Cond := [Cond.constant RX7 163 (-2000000001), Cond.constantLong RX7 207 (-40), Cond.constantLong RX7 209 (60), Cond.constant RX7 156 (-2000000002), Cond.constant RX7 140 (-2000000003), Cond.methodLink RX7 160 yX7_isShelf, Cond.static yX7_isShelf, Cond.initialized RX7, Cond.code yX7_isShelf cX7_isShelf 1 (some .boolean), Cond.constantLong RX7 147 (3), Cond.methodLink RX7 131 yX7_in, Cond.static yX7_in, Cond.code yX7_in cX7_in 6 (some .boolean), Cond.methodLink RX7 168 yX7_mOf, Cond.instanceMethod yX7_mOf, Cond.selects RX7 yX7_mOf yX7_mOf, Cond.code yX7_mOf cX7_mOf 2 (some .int), Cond.fieldLink RX7 7 "RingBasesModel" "w" "[I", Cond.methodLink RX7 171 yX7_nOf, Cond.instanceMethod yX7_nOf, Cond.selects RX7 yX7_nOf yX7_nOf, Cond.code yX7_nOf cX7_nOf 2 (some .int), Cond.methodLink RX7 68 yX7_signOf, Cond.instanceMethod yX7_signOf]
def wsX7_figure_r2 : List Cond := [Cond.selects RX7 yX7_signOf yX7_signOf, Cond.code yX7_signOf cX7_signOf 8 (some .int), Cond.constantLong RX7 48 (2), Cond.methodLink RX7 50 yX7_signOne, Cond.static yX7_signOne, Cond.code yX7_signOne cX7_signOne 2 (some .int), Cond.methodLink RX7 54 yX7_inside, Cond.instanceMethod yX7_inside, Cond.selects RX7 yX7_inside yX7_inside, Cond.code yX7_inside cX7_inside 1 (some .long), Cond.constantLong RX7 46 (4), Cond.methodLink RX7 141 yX7_layWritten, Cond.instanceMethod yX7_layWritten, Cond.selects RX7 yX7_layWritten yX7_layWritten, Cond.code yX7_layWritten cX7_layWritten 11 none, Cond.fieldLink RX7 65 "RingBasesModel" "high" "I", Cond.fieldLink RX7 29 "RingBasesModel" "powerM" "[J", Cond.fieldLink RX7 32 "RingBasesModel" "powerN" "[J", Cond.fieldLink RX7 16 "RingBasesModel" "ahead" "[I", Cond.fieldLink RX7 22 "RingBasesModel" "restM" "[J", Cond.fieldLink RX7 26 "RingBasesModel" "restN" "[J", Cond.methodLink RX7 92 yX7_layPowers, Cond.instanceMethod yX7_layPowers, Cond.selects RX7 yX7_layPowers yX7_layPowers]
def wsX7_figure_r3 : List Cond := [Cond.code yX7_layPowers cX7_layPowers 6 none, Cond.methodLink RX7 96 yX7_layBehind, Cond.instanceMethod yX7_layBehind, Cond.selects RX7 yX7_layBehind yX7_layBehind, Cond.code yX7_layBehind cX7_layBehind 9 none, Cond.fieldLink RX7 78 "RingBasesModel" "behindMany" "I", Cond.fieldLink RX7 81 "RingBasesModel" "ends" "I", Cond.fieldLink RX7 72 "RingBasesModel" "lead" "I", Cond.fieldLink RX7 75 "RingBasesModel" "round" "I", Cond.fieldLink RX7 19 "RingBasesModel" "behind" "[I", Cond.methodLink RX7 84 yX7_wasAhead, Cond.instanceMethod yX7_wasAhead, Cond.selects RX7 yX7_wasAhead yX7_wasAhead, Cond.code yX7_wasAhead cX7_wasAhead 3 (some .boolean), Cond.methodLink RX7 88 yX7_wholeOf, Cond.instanceMethod yX7_wholeOf, Cond.selects RX7 yX7_wholeOf yX7_wholeOf, Cond.code yX7_wholeOf cX7_wholeOf 9 (some .long), Cond.methodLink RX7 58 yX7_rootOf, Cond.static yX7_rootOf, Cond.code yX7_rootOf cX7_rootOf 7 (some .long), Cond.methodLink RX7 62 yX7_halfDown, Cond.static yX7_halfDown, Cond.code yX7_halfDown cX7_halfDown 2 (some .long)]
def wsX7_figure_r4 : List Cond := [Cond.methodLink RX7 211 yX7_figureAt, Cond.instanceMethod yX7_figureAt, Cond.selects RX7 yX7_figureAt yX7_figureAt, Cond.code yX7_figureAt cX7_figureAt 2 (some .int)]
def wsX7_figure : List Cond := .code yX7_figure cX7_figure 3 (some .int) :: ((wsX7_figure_r1 ++ (wsX7_figure_r2 ++ (wsX7_figure_r3 ++ wsX7_figure_r4))) ++ wsX70)
def wsX7_compare_r1 : List Cond := [Cond.constant RX7 163 (-2000000001), Cond.methodLink RX7 160 yX7_isShelf, Cond.static yX7_isShelf, Cond.initialized RX7, Cond.code yX7_isShelf cX7_isShelf 1 (some .boolean), Cond.constantLong RX7 147 (3), Cond.methodLink RX7 131 yX7_in, Cond.static yX7_in, Cond.code yX7_in cX7_in 6 (some .boolean), Cond.methodLink RX7 168 yX7_mOf, Cond.instanceMethod yX7_mOf, Cond.selects RX7 yX7_mOf yX7_mOf, Cond.code yX7_mOf cX7_mOf 2 (some .int), Cond.fieldLink RX7 7 "RingBasesModel" "w" "[I", Cond.methodLink RX7 171 yX7_nOf, Cond.instanceMethod yX7_nOf, Cond.selects RX7 yX7_nOf yX7_nOf, Cond.code yX7_nOf cX7_nOf 2 (some .int), Cond.methodLink RX7 68 yX7_signOf, Cond.instanceMethod yX7_signOf, Cond.selects RX7 yX7_signOf yX7_signOf, Cond.code yX7_signOf cX7_signOf 8 (some .int), Cond.constantLong RX7 48 (2), Cond.methodLink RX7 50 yX7_signOne]
def wsX7_compare_r2 : List Cond := [Cond.static yX7_signOne, Cond.code yX7_signOne cX7_signOne 2 (some .int), Cond.methodLink RX7 54 yX7_inside, Cond.instanceMethod yX7_inside, Cond.selects RX7 yX7_inside yX7_inside, Cond.code yX7_inside cX7_inside 1 (some .long), Cond.constantLong RX7 46 (4)]
def wsX7_compare : List Cond := .code yX7_compare cX7_compare 3 (some .int) :: ((wsX7_compare_r1 ++ wsX7_compare_r2) ++ wsX70)
def wsX7_beside_r1 : List Cond := [Cond.constant RX7 163 (-2000000001), Cond.fieldLink RX7 7 "RingBasesModel" "w" "[I", Cond.methodLink RX7 160 yX7_isShelf, Cond.static yX7_isShelf, Cond.initialized RX7, Cond.code yX7_isShelf cX7_isShelf 1 (some .boolean), Cond.constantLong RX7 147 (3), Cond.methodLink RX7 131 yX7_in, Cond.static yX7_in, Cond.code yX7_in cX7_in 6 (some .boolean), Cond.methodLink RX7 171 yX7_nOf, Cond.instanceMethod yX7_nOf, Cond.selects RX7 yX7_nOf yX7_nOf, Cond.code yX7_nOf cX7_nOf 2 (some .int), Cond.methodLink RX7 168 yX7_mOf, Cond.instanceMethod yX7_mOf, Cond.selects RX7 yX7_mOf yX7_mOf, Cond.code yX7_mOf cX7_mOf 2 (some .int), Cond.methodLink RX7 88 yX7_wholeOf, Cond.instanceMethod yX7_wholeOf, Cond.selects RX7 yX7_wholeOf yX7_wholeOf, Cond.code yX7_wholeOf cX7_wholeOf 9 (some .long), Cond.constantLong RX7 48 (2), Cond.methodLink RX7 54 yX7_inside]
def wsX7_beside_r2 : List Cond := [Cond.instanceMethod yX7_inside, Cond.selects RX7 yX7_inside yX7_inside, Cond.code yX7_inside cX7_inside 1 (some .long), Cond.constantLong RX7 46 (4), Cond.methodLink RX7 58 yX7_rootOf, Cond.static yX7_rootOf, Cond.code yX7_rootOf cX7_rootOf 7 (some .long), Cond.methodLink RX7 62 yX7_halfDown, Cond.static yX7_halfDown, Cond.code yX7_halfDown cX7_halfDown 2 (some .long)]
def wsX7_beside : List Cond := .code yX7_beside cX7_beside 4 (some .int) :: ((wsX7_beside_r1 ++ wsX7_beside_r2) ++ wsX70)
def wsX7_norm : List Cond := .code yX7_norm cX7_norm 6 (some .long) :: ([.constantLong RX7 214 (-2000000001), .fieldLink RX7 7 "RingBasesModel" "w" "[I", .methodLink RX7 160 yX7_isShelf, .static yX7_isShelf, .initialized RX7, .code yX7_isShelf cX7_isShelf 1 (some .boolean), .constantLong RX7 147 (3), .methodLink RX7 131 yX7_in, .static yX7_in, .code yX7_in cX7_in 6 (some .boolean), .methodLink RX7 168 yX7_mOf, .instanceMethod yX7_mOf, .selects RX7 yX7_mOf yX7_mOf, .code yX7_mOf cX7_mOf 2 (some .int), .methodLink RX7 171 yX7_nOf, .instanceMethod yX7_nOf, .selects RX7 yX7_nOf yX7_nOf, .code yX7_nOf cX7_nOf 2 (some .int)] ++ wsX70)
def wsX7_feed : List Cond := .code yX7_feed cX7_feed 3 (some .int) :: ([.constantLong RX7 216 (48), .constantLong RX7 218 (57), .constant RX7 156 (-2000000002), .fieldLink RX7 99 "RingBasesModel" "size" "I", .constant RX7 139 (-2000000004), .fieldLink RX7 13 "RingBasesModel" "word" "[I", .methodLink RX7 117 yX7_pointAt, .instanceMethod yX7_pointAt, .selects RX7 yX7_pointAt yX7_pointAt, .initialized RX7, .code yX7_pointAt cX7_pointAt 3 (some .int), .methodLink RX7 131 yX7_in, .static yX7_in, .code yX7_in cX7_in 6 (some .boolean)] ++ wsX70)
def wsX7_clear : List Cond := .code yX7_clear cX7_clear 2 (some .int) :: ([.fieldLink RX7 99 "RingBasesModel" "size" "I"] ++ wsX70)
def wsX7_normal_r1 : List Cond := [Cond.constant RX7 156 (-2000000002), Cond.fieldLink RX7 65 "RingBasesModel" "high" "I", Cond.methodLink RX7 198 yX7_normalMany, Cond.instanceMethod yX7_normalMany, Cond.selects RX7 yX7_normalMany yX7_normalMany, Cond.initialized RX7, Cond.code yX7_normalMany cX7_normalMany 1 (some .int), Cond.constant RX7 139 (-2000000004), Cond.fieldLink RX7 120 "RingBasesModel" "worthM" "J", Cond.fieldLink RX7 124 "RingBasesModel" "worthN" "J", Cond.constant RX7 140 (-2000000003), Cond.fieldLink RX7 78 "RingBasesModel" "behindMany" "I", Cond.methodLink RX7 135 yX7_layWorth, Cond.instanceMethod yX7_layWorth, Cond.selects RX7 yX7_layWorth yX7_layWorth, Cond.code yX7_layWorth cX7_layWorth 5 (some .boolean), Cond.fieldLink RX7 7 "RingBasesModel" "w" "[I", Cond.fieldLink RX7 35 "RingBasesModel" "row" "[I", Cond.constantLong RX7 127 (-999999), Cond.constantLong RX7 129 (999999), Cond.methodLink RX7 110 yX7_layRow, Cond.instanceMethod yX7_layRow, Cond.selects RX7 yX7_layRow yX7_layRow, Cond.code yX7_layRow cX7_layRow 3 none]
def wsX7_normal_r2 : List Cond := [Cond.fieldLink RX7 99 "RingBasesModel" "size" "I", Cond.fieldLink RX7 13 "RingBasesModel" "word" "[I", Cond.methodLink RX7 113 yX7_figures, Cond.instanceMethod yX7_figures, Cond.selects RX7 yX7_figures yX7_figures, Cond.code yX7_figures cX7_figures 3 (some .int), Cond.methodLink RX7 131 yX7_in, Cond.static yX7_in, Cond.code yX7_in cX7_in 6 (some .boolean), Cond.methodLink RX7 68 yX7_signOf, Cond.instanceMethod yX7_signOf, Cond.selects RX7 yX7_signOf yX7_signOf, Cond.code yX7_signOf cX7_signOf 8 (some .int), Cond.constantLong RX7 48 (2), Cond.methodLink RX7 50 yX7_signOne, Cond.static yX7_signOne, Cond.code yX7_signOne cX7_signOne 2 (some .int), Cond.methodLink RX7 54 yX7_inside, Cond.instanceMethod yX7_inside, Cond.selects RX7 yX7_inside yX7_inside, Cond.code yX7_inside cX7_inside 1 (some .long), Cond.constantLong RX7 46 (4), Cond.methodLink RX7 141 yX7_layWritten, Cond.instanceMethod yX7_layWritten]
def wsX7_normal_r3 : List Cond := [Cond.selects RX7 yX7_layWritten yX7_layWritten, Cond.code yX7_layWritten cX7_layWritten 11 none, Cond.fieldLink RX7 29 "RingBasesModel" "powerM" "[J", Cond.fieldLink RX7 32 "RingBasesModel" "powerN" "[J", Cond.fieldLink RX7 16 "RingBasesModel" "ahead" "[I", Cond.fieldLink RX7 22 "RingBasesModel" "restM" "[J", Cond.fieldLink RX7 26 "RingBasesModel" "restN" "[J", Cond.methodLink RX7 92 yX7_layPowers, Cond.instanceMethod yX7_layPowers, Cond.selects RX7 yX7_layPowers yX7_layPowers, Cond.code yX7_layPowers cX7_layPowers 6 none, Cond.methodLink RX7 96 yX7_layBehind, Cond.instanceMethod yX7_layBehind, Cond.selects RX7 yX7_layBehind yX7_layBehind, Cond.code yX7_layBehind cX7_layBehind 9 none, Cond.fieldLink RX7 81 "RingBasesModel" "ends" "I", Cond.fieldLink RX7 72 "RingBasesModel" "lead" "I", Cond.fieldLink RX7 75 "RingBasesModel" "round" "I", Cond.fieldLink RX7 19 "RingBasesModel" "behind" "[I", Cond.methodLink RX7 84 yX7_wasAhead, Cond.instanceMethod yX7_wasAhead, Cond.selects RX7 yX7_wasAhead yX7_wasAhead, Cond.code yX7_wasAhead cX7_wasAhead 3 (some .boolean), Cond.methodLink RX7 88 yX7_wholeOf]
def wsX7_normal_r4 : List Cond := [Cond.instanceMethod yX7_wholeOf, Cond.selects RX7 yX7_wholeOf yX7_wholeOf, Cond.code yX7_wholeOf cX7_wholeOf 9 (some .long), Cond.methodLink RX7 58 yX7_rootOf, Cond.static yX7_rootOf, Cond.code yX7_rootOf cX7_rootOf 7 (some .long), Cond.methodLink RX7 62 yX7_halfDown, Cond.static yX7_halfDown, Cond.code yX7_halfDown cX7_halfDown 2 (some .long), Cond.methodLink RX7 211 yX7_figureAt, Cond.instanceMethod yX7_figureAt, Cond.selects RX7 yX7_figureAt yX7_figureAt, Cond.code yX7_figureAt cX7_figureAt 2 (some .int)]
def wsX7_normal : List Cond := .code yX7_normal cX7_normal 3 (some .int) :: ((wsX7_normal_r1 ++ (wsX7_normal_r2 ++ (wsX7_normal_r3 ++ wsX7_normal_r4))) ++ wsX70)
def wsX7_next_r1 : List Cond := [Cond.constant RX7 156 (-2000000002), Cond.fieldLink RX7 35 "RingBasesModel" "row" "[I", Cond.methodLink RX7 113 yX7_figures, Cond.instanceMethod yX7_figures, Cond.selects RX7 yX7_figures yX7_figures, Cond.initialized RX7, Cond.code yX7_figures cX7_figures 3 (some .int), Cond.fieldLink RX7 99 "RingBasesModel" "size" "I", Cond.fieldLink RX7 13 "RingBasesModel" "word" "[I", Cond.methodLink RX7 220 yX7_layNext, Cond.instanceMethod yX7_layNext, Cond.selects RX7 yX7_layNext yX7_layNext, Cond.code yX7_layNext cX7_layNext 5 (some .boolean), Cond.methodLink RX7 110 yX7_layRow, Cond.instanceMethod yX7_layRow, Cond.selects RX7 yX7_layRow yX7_layRow, Cond.code yX7_layRow cX7_layRow 3 none, Cond.methodLink RX7 144 yX7_isWell, Cond.instanceMethod yX7_isWell, Cond.selects RX7 yX7_isWell yX7_isWell, Cond.code yX7_isWell cX7_isWell 4 (some .boolean), Cond.methodLink RX7 106 yX7_isLess, Cond.instanceMethod yX7_isLess, Cond.selects RX7 yX7_isLess yX7_isLess]
def wsX7_next_r2 : List Cond := [Cond.code yX7_isLess cX7_isLess 5 (some .boolean), Cond.methodLink RX7 102 yX7_oneAt, Cond.instanceMethod yX7_oneAt, Cond.selects RX7 yX7_oneAt yX7_oneAt, Cond.code yX7_oneAt cX7_oneAt 2 (some .int), Cond.fieldLink RX7 7 "RingBasesModel" "w" "[I"]
def wsX7_next : List Cond := .code yX7_next cX7_next 2 (some .int) :: ((wsX7_next_r1 ++ wsX7_next_r2) ++ wsX70)
def wsX7_one : List Cond := .code yX7_one cX7_one 2 (some .int) :: ([.constant RX7 156 (-2000000002), .methodLink RX7 102 yX7_oneAt, .instanceMethod yX7_oneAt, .selects RX7 yX7_oneAt yX7_oneAt, .initialized RX7, .code yX7_oneAt cX7_oneAt 2 (some .int), .fieldLink RX7 7 "RingBasesModel" "w" "[I"] ++ wsX70)
def wsX7_read_r1 : List Cond := [Cond.constant RX7 163 (-2000000001), Cond.constant RX7 139 (-2000000004), Cond.fieldLink RX7 120 "RingBasesModel" "worthM" "J", Cond.fieldLink RX7 124 "RingBasesModel" "worthN" "J", Cond.methodLink RX7 160 yX7_isShelf, Cond.static yX7_isShelf, Cond.initialized RX7, Cond.code yX7_isShelf cX7_isShelf 1 (some .boolean), Cond.constantLong RX7 147 (3), Cond.methodLink RX7 131 yX7_in, Cond.static yX7_in, Cond.code yX7_in cX7_in 6 (some .boolean), Cond.methodLink RX7 135 yX7_layWorth, Cond.instanceMethod yX7_layWorth, Cond.selects RX7 yX7_layWorth yX7_layWorth, Cond.code yX7_layWorth cX7_layWorth 5 (some .boolean), Cond.fieldLink RX7 7 "RingBasesModel" "w" "[I", Cond.fieldLink RX7 35 "RingBasesModel" "row" "[I", Cond.constantLong RX7 127 (-999999), Cond.constantLong RX7 129 (999999), Cond.methodLink RX7 110 yX7_layRow, Cond.instanceMethod yX7_layRow, Cond.selects RX7 yX7_layRow yX7_layRow, Cond.code yX7_layRow cX7_layRow 3 none]
def wsX7_read_r2 : List Cond := [Cond.fieldLink RX7 99 "RingBasesModel" "size" "I", Cond.fieldLink RX7 13 "RingBasesModel" "word" "[I", Cond.methodLink RX7 113 yX7_figures, Cond.instanceMethod yX7_figures, Cond.selects RX7 yX7_figures yX7_figures, Cond.code yX7_figures cX7_figures 3 (some .int), Cond.methodLink RX7 164 yX7_set, Cond.instanceMethod yX7_set, Cond.selects RX7 yX7_set yX7_set, Cond.code yX7_set cX7_set 6 (some .int), Cond.methodLink RX7 149 yX7_remember, Cond.instanceMethod yX7_remember, Cond.selects RX7 yX7_remember yX7_remember, Cond.code yX7_remember cX7_remember 2 none, Cond.fieldLink RX7 42 "RingBasesModel" "known" "I", Cond.methodLink RX7 38 yX7_copyRow, Cond.instanceMethod yX7_copyRow, Cond.selects RX7 yX7_copyRow yX7_copyRow, Cond.code yX7_copyRow cX7_copyRow 4 none, Cond.methodLink RX7 68 yX7_signOf, Cond.instanceMethod yX7_signOf, Cond.selects RX7 yX7_signOf yX7_signOf, Cond.code yX7_signOf cX7_signOf 8 (some .int), Cond.constantLong RX7 48 (2)]
def wsX7_read_r3 : List Cond := [Cond.methodLink RX7 50 yX7_signOne, Cond.static yX7_signOne, Cond.code yX7_signOne cX7_signOne 2 (some .int), Cond.methodLink RX7 54 yX7_inside, Cond.instanceMethod yX7_inside, Cond.selects RX7 yX7_inside yX7_inside, Cond.code yX7_inside cX7_inside 1 (some .long), Cond.constantLong RX7 46 (4), Cond.methodLink RX7 192 yX7_shiftNow, Cond.instanceMethod yX7_shiftNow, Cond.selects RX7 yX7_shiftNow yX7_shiftNow, Cond.code yX7_shiftNow cX7_shiftNow 1 (some .int), Cond.methodLink RX7 117 yX7_pointAt, Cond.instanceMethod yX7_pointAt, Cond.selects RX7 yX7_pointAt yX7_pointAt, Cond.code yX7_pointAt cX7_pointAt 3 (some .int)]
def wsX7_read : List Cond := .code yX7_read cX7_read 2 (some .int) :: ((wsX7_read_r1 ++ (wsX7_read_r2 ++ wsX7_read_r3)) ++ wsX70)
def wsX7_write_r1 : List Cond := [Cond.constant RX7 163 (-2000000001), Cond.constant RX7 140 (-2000000003), Cond.fieldLink RX7 65 "RingBasesModel" "high" "I", Cond.fieldLink RX7 78 "RingBasesModel" "behindMany" "I", Cond.constant RX7 139 (-2000000004), Cond.fieldLink RX7 99 "RingBasesModel" "size" "I", Cond.fieldLink RX7 13 "RingBasesModel" "word" "[I", Cond.methodLink RX7 160 yX7_isShelf, Cond.static yX7_isShelf, Cond.initialized RX7, Cond.code yX7_isShelf cX7_isShelf 1 (some .boolean), Cond.constantLong RX7 147 (3), Cond.methodLink RX7 131 yX7_in, Cond.static yX7_in, Cond.code yX7_in cX7_in 6 (some .boolean), Cond.methodLink RX7 168 yX7_mOf, Cond.instanceMethod yX7_mOf, Cond.selects RX7 yX7_mOf yX7_mOf, Cond.code yX7_mOf cX7_mOf 2 (some .int), Cond.fieldLink RX7 7 "RingBasesModel" "w" "[I", Cond.methodLink RX7 171 yX7_nOf, Cond.instanceMethod yX7_nOf, Cond.selects RX7 yX7_nOf yX7_nOf, Cond.code yX7_nOf cX7_nOf 2 (some .int)]
def wsX7_write_r2 : List Cond := [Cond.methodLink RX7 68 yX7_signOf, Cond.instanceMethod yX7_signOf, Cond.selects RX7 yX7_signOf yX7_signOf, Cond.code yX7_signOf cX7_signOf 8 (some .int), Cond.constantLong RX7 48 (2), Cond.methodLink RX7 50 yX7_signOne, Cond.static yX7_signOne, Cond.code yX7_signOne cX7_signOne 2 (some .int), Cond.methodLink RX7 54 yX7_inside, Cond.instanceMethod yX7_inside, Cond.selects RX7 yX7_inside yX7_inside, Cond.code yX7_inside cX7_inside 1 (some .long), Cond.constantLong RX7 46 (4), Cond.methodLink RX7 141 yX7_layWritten, Cond.instanceMethod yX7_layWritten, Cond.selects RX7 yX7_layWritten yX7_layWritten, Cond.code yX7_layWritten cX7_layWritten 11 none, Cond.fieldLink RX7 29 "RingBasesModel" "powerM" "[J", Cond.fieldLink RX7 32 "RingBasesModel" "powerN" "[J", Cond.fieldLink RX7 16 "RingBasesModel" "ahead" "[I", Cond.fieldLink RX7 22 "RingBasesModel" "restM" "[J", Cond.fieldLink RX7 26 "RingBasesModel" "restN" "[J", Cond.methodLink RX7 92 yX7_layPowers, Cond.instanceMethod yX7_layPowers]
def wsX7_write_r3 : List Cond := [Cond.selects RX7 yX7_layPowers yX7_layPowers, Cond.code yX7_layPowers cX7_layPowers 6 none, Cond.methodLink RX7 96 yX7_layBehind, Cond.instanceMethod yX7_layBehind, Cond.selects RX7 yX7_layBehind yX7_layBehind, Cond.code yX7_layBehind cX7_layBehind 9 none, Cond.fieldLink RX7 81 "RingBasesModel" "ends" "I", Cond.fieldLink RX7 72 "RingBasesModel" "lead" "I", Cond.fieldLink RX7 75 "RingBasesModel" "round" "I", Cond.fieldLink RX7 19 "RingBasesModel" "behind" "[I", Cond.methodLink RX7 84 yX7_wasAhead, Cond.instanceMethod yX7_wasAhead, Cond.selects RX7 yX7_wasAhead yX7_wasAhead, Cond.code yX7_wasAhead cX7_wasAhead 3 (some .boolean), Cond.methodLink RX7 88 yX7_wholeOf, Cond.instanceMethod yX7_wholeOf, Cond.selects RX7 yX7_wholeOf yX7_wholeOf, Cond.code yX7_wholeOf cX7_wholeOf 9 (some .long), Cond.methodLink RX7 58 yX7_rootOf, Cond.static yX7_rootOf, Cond.code yX7_rootOf cX7_rootOf 7 (some .long), Cond.methodLink RX7 62 yX7_halfDown, Cond.static yX7_halfDown, Cond.code yX7_halfDown cX7_halfDown 2 (some .long)]
def wsX7_write_r4 : List Cond := [Cond.methodLink RX7 211 yX7_figureAt, Cond.instanceMethod yX7_figureAt, Cond.selects RX7 yX7_figureAt yX7_figureAt, Cond.code yX7_figureAt cX7_figureAt 2 (some .int)]
def wsX7_write : List Cond := .code yX7_write cX7_write 4 (some .int) :: ((wsX7_write_r1 ++ (wsX7_write_r2 ++ (wsX7_write_r3 ++ wsX7_write_r4))) ++ wsX70)
def wsX7_keep : List Cond := .code yX7_keep cX7_keep 2 (some .int) :: ([.constant RX7 163 (-2000000001), .fieldLink RX7 223 "RingBasesModel" "kept" "I", .fieldLink RX7 42 "RingBasesModel" "known" "I", .methodLink RX7 131 yX7_in, .static yX7_in, .initialized RX7, .code yX7_in cX7_in 6 (some .boolean), .methodLink RX7 38 yX7_copyRow, .instanceMethod yX7_copyRow, .selects RX7 yX7_copyRow yX7_copyRow, .code yX7_copyRow cX7_copyRow 4 none, .fieldLink RX7 7 "RingBasesModel" "w" "[I"] ++ wsX70)
def wsX7_goBack : List Cond := .code yX7_goBack cX7_goBack 2 (some .int) :: ([.constant RX7 163 (-2000000001), .fieldLink RX7 223 "RingBasesModel" "kept" "I", .constant RX7 140 (-2000000003), .fieldLink RX7 42 "RingBasesModel" "known" "I", .methodLink RX7 131 yX7_in, .static yX7_in, .initialized RX7, .code yX7_in cX7_in 6 (some .boolean), .methodLink RX7 226 yX7_has, .static yX7_has, .code yX7_has cX7_has 2 (some .boolean), .methodLink RX7 38 yX7_copyRow, .instanceMethod yX7_copyRow, .selects RX7 yX7_copyRow yX7_copyRow, .code yX7_copyRow cX7_copyRow 4 none, .fieldLink RX7 7 "RingBasesModel" "w" "[I"] ++ wsX70)
def wsJ9_abs_067f4 : List Cond := .code yJ9_abs_067f4 cJ9_abs_067f4 2 (some .long) :: ([])
def wsL_law_r1 : List Cond := [Cond.classLink RL 7 RX6, Cond.instantiable RX6 5, Cond.initialized RX6, Cond.classLink RL 10 RX7, Cond.instantiable RX7 19, Cond.initialized RX7, Cond.methodLink RL 9 yX6_init, Cond.instanceMethod yX6_init, Cond.code yX6_init cX6_init 1 none, Cond.methodLink RX6 3 objectInit, Cond.instanceMethod objectInit, Cond.code objectInit ⟨#[0xb1]⟩ 1 none, Cond.classLink RX6 9 RX3, Cond.instantiable RX3 3, Cond.initialized RX3, Cond.fieldLink RX6 12 "RingBases" "now" "LRingBases$State;", Cond.classLink RX6 16 RX1, Cond.instantiable RX1 3, Cond.initialized RX1, Cond.fieldLink RX6 19 "RingBases" "history" "LRingBases$History;", Cond.classLink RX6 23 RX2, Cond.instantiable RX2 2, Cond.initialized RX2, Cond.fieldLink RX6 26 "RingBases" "images" "LRingBases$Images;"]
def wsL_law_r2 : List Cond := [Cond.classLink RX6 30 RX4, Cond.instantiable RX4 6, Cond.initialized RX4, Cond.fieldLink RX6 33 "RingBases" "word" "LRingBases$Word;", Cond.classLink RX6 37 RX5, Cond.instantiable RX5 16, Cond.initialized RX5, Cond.fieldLink RX6 40 "RingBases" "writing" "LRingBases$Writing;", Cond.instanceMethod yX3_init, Cond.code yX3_init cX3_init 1 none, Cond.methodLink RX3 3 objectInit, Cond.classLink RX3 9 RX0, Cond.instantiable RX0 2, Cond.initialized RX0, Cond.fieldLink RX3 12 "RingBases$State" "base" "LRingBases$Base;", Cond.arrayClass .int, Cond.fieldLink RX3 18 "RingBases$State" "ms" "[I", Cond.fieldLink RX3 22 "RingBases$State" "ns" "[I", Cond.instanceMethod yX0_init, Cond.code yX0_init cX0_init 1 none, Cond.methodLink RX0 3 objectInit, Cond.fieldLink RX0 9 "RingBases$Base" "a" "I", Cond.fieldLink RX0 15 "RingBases$Base" "b" "I", Cond.instanceMethod yX1_init]
def wsL_law_r3 : List Cond := [Cond.code yX1_init cX1_init 1 none, Cond.methodLink RX1 3 objectInit, Cond.fieldLink RX1 9 "RingBases$History" "cells" "[I", Cond.fieldLink RX1 15 "RingBases$History" "oldest" "I", Cond.fieldLink RX1 19 "RingBases$History" "count" "I", Cond.instanceMethod yX2_init, Cond.code yX2_init cX2_init 1 none, Cond.methodLink RX2 3 objectInit, Cond.fieldLink RX2 9 "RingBases$Images" "cells" "[I", Cond.arrayClass .boolean, Cond.fieldLink RX2 15 "RingBases$Images" "kept" "[Z", Cond.instanceMethod yX4_init, Cond.code yX4_init cX4_init 1 none, Cond.methodLink RX4 3 objectInit, Cond.fieldLink RX4 9 "RingBases$Word" "figures" "[I", Cond.fieldLink RX4 15 "RingBases$Word" "follower" "[I", Cond.fieldLink RX4 18 "RingBases$Word" "count" "I", Cond.fieldLink RX4 22 "RingBases$Word" "aheadOfPoint" "I", Cond.fieldLink RX4 25 "RingBases$Word" "worthM" "I", Cond.fieldLink RX4 28 "RingBases$Word" "worthN" "I", Cond.instanceMethod yX5_init, Cond.code yX5_init cX5_init 1 none, Cond.methodLink RX5 3 objectInit, Cond.fieldLink RX5 9 "RingBases$Writing" "figures" "[I"]
def wsL_law_r4 : List Cond := [Cond.fieldLink RX5 15 "RingBases$Writing" "ahead" "I", Cond.fieldLink RX5 19 "RingBases$Writing" "behind" "I", Cond.fieldLink RX5 22 "RingBases$Writing" "ends" "Z", Cond.fieldLink RX5 26 "RingBases$Writing" "lead" "I", Cond.fieldLink RX5 29 "RingBases$Writing" "round" "I", Cond.arrayClass .long, Cond.fieldLink RX5 32 "RingBases$Writing" "powerMs" "[J", Cond.fieldLink RX5 36 "RingBases$Writing" "powerNs" "[J", Cond.fieldLink RX5 39 "RingBases$Writing" "restMs" "[J", Cond.fieldLink RX5 42 "RingBases$Writing" "restNs" "[J", Cond.fieldLink RX5 45 "RingBases$Writing" "leftM" "J", Cond.fieldLink RX5 49 "RingBases$Writing" "leftN" "J", Cond.fieldLink RX5 52 "RingBases$Writing" "ofA" "I", Cond.fieldLink RX5 55 "RingBases$Writing" "ofB" "I", Cond.fieldLink RX5 58 "RingBases$Writing" "ofM" "I", Cond.fieldLink RX5 61 "RingBases$Writing" "ofN" "I", Cond.methodLink RL 12 yX7_init, Cond.instanceMethod yX7_init, Cond.code yX7_init cX7_init 1 none, Cond.methodLink RX7 1 objectInit, Cond.fieldLink RX7 7 "RingBasesModel" "w" "[I", Cond.fieldLink RX7 13 "RingBasesModel" "word" "[I", Cond.fieldLink RX7 16 "RingBasesModel" "ahead" "[I", Cond.fieldLink RX7 19 "RingBasesModel" "behind" "[I"]
def wsL_law_r5 : List Cond := [Cond.fieldLink RX7 22 "RingBasesModel" "restM" "[J", Cond.fieldLink RX7 26 "RingBasesModel" "restN" "[J", Cond.fieldLink RX7 29 "RingBasesModel" "powerM" "[J", Cond.fieldLink RX7 32 "RingBasesModel" "powerN" "[J", Cond.fieldLink RX7 35 "RingBasesModel" "row" "[I", Cond.methodLink RL 13 yX6_base, Cond.instanceMethod yX6_base, Cond.selects RX6 yX6_base yX6_base, Cond.code yX6_base cX6_base 3 (some .int), Cond.constant RX6 50 (-2000000002), Cond.methodLink RX6 44 yX0_canBe, Cond.static yX0_canBe, Cond.code yX0_canBe cX0_canBe 2 (some .boolean), Cond.methodLink RX6 51 yX1_remember, Cond.instanceMethod yX1_remember, Cond.selects RX1 yX1_remember yX1_remember, Cond.code yX1_remember cX1_remember 2 none, Cond.methodLink RX1 22 yX3_copyInto, Cond.instanceMethod yX3_copyInto, Cond.selects RX3 yX3_copyInto yX3_copyInto, Cond.code yX3_copyInto cX3_copyInto 3 none, Cond.methodLink RX3 32 arraycopyName, Cond.native arraycopyName, Cond.static arraycopyName]
def wsL_law_r6 : List Cond := [Cond.initialized "java/lang/System", Cond.methodLink RX6 59 yX0_become, Cond.instanceMethod yX0_become, Cond.selects RX0 yX0_become yX0_become, Cond.code yX0_become cX0_become 3 none, Cond.methodLink RX6 63 yX0_top, Cond.instanceMethod yX0_top, Cond.selects RX0 yX0_top yX0_top, Cond.code yX0_top cX0_top 1 (some .int), Cond.methodLink RL 17 yX7_base, Cond.instanceMethod yX7_base, Cond.selects RX7 yX7_base yX7_base, Cond.code yX7_base cX7_base 4 (some .int), Cond.constantLong RX7 152 (9), Cond.constantLong RX7 154 (-1), Cond.constant RX7 156 (-2000000002), Cond.methodLink RX7 131 yX7_in, Cond.static yX7_in, Cond.code yX7_in cX7_in 6 (some .boolean), Cond.methodLink RX7 149 yX7_remember, Cond.instanceMethod yX7_remember, Cond.selects RX7 yX7_remember yX7_remember, Cond.code yX7_remember cX7_remember 2 none, Cond.fieldLink RX7 42 "RingBasesModel" "known" "I"]
def wsL_law_r7 : List Cond := [Cond.methodLink RX7 38 yX7_copyRow, Cond.instanceMethod yX7_copyRow, Cond.selects RX7 yX7_copyRow yX7_copyRow, Cond.code yX7_copyRow cX7_copyRow 4 none, Cond.methodLink RX7 157 yX7_top, Cond.instanceMethod yX7_top, Cond.selects RX7 yX7_top yX7_top, Cond.code yX7_top cX7_top 1 (some .int), Cond.methodLink RL 18 yX6_put, Cond.instanceMethod yX6_put, Cond.selects RX6 yX6_put yX6_put, Cond.code yX6_put cX6_put 4 (some .int), Cond.constant RX6 71 (-2000000001), Cond.methodLink RX6 67 yX6_isNoShelf, Cond.static yX6_isNoShelf, Cond.code yX6_isNoShelf cX6_isNoShelf 1 (some .boolean), Cond.methodLink RX6 72 yX6_isOutOfBounds, Cond.static yX6_isOutOfBounds, Cond.code yX6_isOutOfBounds cX6_isOutOfBounds 2 (some .boolean), Cond.constantLong RX6 218 (-999999), Cond.constantLong RX6 220 (999999), Cond.methodLink RX6 76 yX6_lay, Cond.instanceMethod yX6_lay, Cond.selects RX6 yX6_lay yX6_lay]
def wsL_law_r8 : List Cond := [Cond.code yX6_lay cX6_lay 6 (some .int), Cond.constant RX6 142 (-2000000004), Cond.methodLink RX6 153 yX6_signOf, Cond.instanceMethod yX6_signOf, Cond.selects RX6 yX6_signOf yX6_signOf, Cond.code yX6_signOf cX6_signOf 2 (some .int), Cond.methodLink RX6 110 yX0_sign, Cond.instanceMethod yX0_sign, Cond.selects RX0 yX0_sign yX0_sign, Cond.code yX0_sign cX0_sign 9 (some .int), Cond.constantLong RX0 20 (2), Cond.methodLink RX0 22 yJ13_compare_74951, Cond.static yJ13_compare_74951, Cond.initialized RJ13, Cond.code yJ13_compare_74951 cJ13_compare_74951 4 (some .int), Cond.methodLink RX0 28 yX0_rootsApartSquared, Cond.instanceMethod yX0_rootsApartSquared, Cond.selects RX0 yX0_rootsApartSquared yX0_rootsApartSquared, Cond.code yX0_rootsApartSquared cX0_rootsApartSquared 1 (some .long), Cond.constantLong RX0 18 (4), Cond.methodLink RL 22 yX7_put, Cond.instanceMethod yX7_put, Cond.selects RX7 yX7_put yX7_put, Cond.code yX7_put cX7_put 4 (some .int)]
def wsL_law_r9 : List Cond := [Cond.constant RX7 163 (-2000000001), Cond.constantLong RX7 127 (-999999), Cond.constantLong RX7 129 (999999), Cond.methodLink RX7 160 yX7_isShelf, Cond.static yX7_isShelf, Cond.code yX7_isShelf cX7_isShelf 1 (some .boolean), Cond.constantLong RX7 147 (3), Cond.methodLink RX7 164 yX7_set, Cond.instanceMethod yX7_set, Cond.selects RX7 yX7_set yX7_set, Cond.code yX7_set cX7_set 6 (some .int), Cond.methodLink RX7 68 yX7_signOf, Cond.instanceMethod yX7_signOf, Cond.selects RX7 yX7_signOf yX7_signOf, Cond.code yX7_signOf cX7_signOf 8 (some .int), Cond.constantLong RX7 48 (2), Cond.methodLink RX7 50 yX7_signOne, Cond.static yX7_signOne, Cond.code yX7_signOne cX7_signOne 2 (some .int), Cond.methodLink RX7 54 yX7_inside, Cond.instanceMethod yX7_inside, Cond.selects RX7 yX7_inside yX7_inside, Cond.code yX7_inside cX7_inside 1 (some .long), Cond.constantLong RX7 46 (4)]
def wsL_law_r10 : List Cond := [Cond.methodLink RL 23 yX6_deed, Cond.instanceMethod yX6_deed, Cond.selects RX6 yX6_deed yX6_deed, Cond.code yX6_deed cX6_deed 13 (some .int), Cond.methodLink RX6 94 yX0_raisedM, Cond.instanceMethod yX0_raisedM, Cond.selects RX0 yX0_raisedM yX0_raisedM, Cond.code yX0_raisedM cX0_raisedM 3 (some .long), Cond.methodLink RX6 98 yX0_raisedN, Cond.instanceMethod yX0_raisedN, Cond.selects RX0 yX0_raisedN yX0_raisedN, Cond.code yX0_raisedN cX0_raisedN 5 (some .long), Cond.methodLink RL 27 yX7_deed, Cond.instanceMethod yX7_deed, Cond.selects RX7 yX7_deed yX7_deed, Cond.code yX7_deed cX7_deed 13 (some .int), Cond.methodLink RX7 168 yX7_mOf, Cond.instanceMethod yX7_mOf, Cond.selects RX7 yX7_mOf yX7_mOf, Cond.code yX7_mOf cX7_mOf 2 (some .int), Cond.methodLink RX7 171 yX7_nOf, Cond.instanceMethod yX7_nOf, Cond.selects RX7 yX7_nOf yX7_nOf, Cond.code yX7_nOf cX7_nOf 2 (some .int)]
def wsL_law_r11 : List Cond := [Cond.methodLink RX7 174 yX7_setIn, Cond.instanceMethod yX7_setIn, Cond.selects RX7 yX7_setIn yX7_setIn, Cond.code yX7_setIn cX7_setIn 6 (some .int), Cond.constant RX7 139 (-2000000004), Cond.methodLink RL 28 yX6_drift, Cond.instanceMethod yX6_drift, Cond.selects RX6 yX6_drift yX6_drift, Cond.code yX6_drift cX6_drift 9 (some .int), Cond.constant RX6 102 (999999), Cond.constantLong RX6 106 (2001), Cond.constantLong RX6 108 (1000), Cond.methodLink RX6 103 yX6_lot, Cond.static yX6_lot, Cond.code yX6_lot cX6_lot 2 (some .long), Cond.constantLong RX6 222 (16807), Cond.constantLong RX6 224 (2147483647), Cond.methodLink RL 31 yX7_drift, Cond.instanceMethod yX7_drift, Cond.selects RX7 yX7_drift yX7_drift, Cond.code yX7_drift cX7_drift 11 (some .int), Cond.constantLong RX7 177 (16807), Cond.constantLong RX7 179 (2147483647), Cond.constantLong RX7 181 (2001)]
def wsL_law_r12 : List Cond := [Cond.constantLong RX7 183 (1000), Cond.methodLink RL 32 yX6_undo, Cond.instanceMethod yX6_undo, Cond.selects RX6 yX6_undo yX6_undo, Cond.code yX6_undo cX6_undo 1 (some .int), Cond.constant RX6 117 (-2000000003), Cond.methodLink RX6 118 yX1_takeBack, Cond.instanceMethod yX1_takeBack, Cond.selects RX1 yX1_takeBack yX1_takeBack, Cond.code yX1_takeBack cX1_takeBack 2 none, Cond.methodLink RX1 28 yX3_copyFrom, Cond.instanceMethod yX3_copyFrom, Cond.selects RX3 yX3_copyFrom yX3_copyFrom, Cond.code yX3_copyFrom cX3_copyFrom 3 none, Cond.methodLink RX3 38 yX0_become, Cond.methodLink RL 36 yX7_undo, Cond.instanceMethod yX7_undo, Cond.selects RX7 yX7_undo yX7_undo, Cond.code yX7_undo cX7_undo 2 (some .int), Cond.constant RX7 140 (-2000000003), Cond.methodLink RL 37 yX6_told, Cond.instanceMethod yX6_told, Cond.selects RX6 yX6_told yX6_told, Cond.code yX6_told cX6_told 2 (some .int)]
def wsL_law_r13 : List Cond := [Cond.constant RX6 141 (1000000), Cond.methodLink RX6 121 yX0_wholePart, Cond.instanceMethod yX0_wholePart, Cond.selects RX0 yX0_wholePart yX0_wholePart, Cond.code yX0_wholePart cX0_wholePart 9 (some .long), Cond.methodLink RX0 32 Lib.MathLoose.abs_long.x, Cond.static Lib.MathLoose.abs_long.x, Cond.initialized "java/lang/Math", Cond.code Lib.MathLoose.abs_long.x Lib.MathLoose.abs_long.code 2 (some .long), Cond.methodLink RX0 38 yX0_squareRoot, Cond.static yX0_squareRoot, Cond.code yX0_squareRoot cX0_squareRoot 8 (some .long), Cond.constantLong RX0 41 (1073741824), Cond.methodLink RX6 124 yX4_signs, Cond.instanceMethod yX4_signs, Cond.selects RX4 yX4_signs yX4_signs, Cond.code yX4_signs cX4_signs 1 (some .int), Cond.methodLink RX4 31 yX4_hasPoint, Cond.instanceMethod yX4_hasPoint, Cond.selects RX4 yX4_hasPoint yX4_hasPoint, Cond.code yX4_hasPoint cX4_hasPoint 1 (some .boolean), Cond.methodLink RX6 127 yX4_badly, Cond.instanceMethod yX4_badly, Cond.selects RX4 yX4_badly yX4_badly]
def wsL_law_r14 : List Cond := [Cond.code yX4_badly cX4_badly 3 (some .int), Cond.methodLink RX4 69 yX4_firstBad, Cond.static yX4_firstBad, Cond.code yX4_firstBad cX4_firstBad 4 (some .int), Cond.methodLink RX4 73 yX4_isLessThanOne, Cond.static yX4_isLessThanOne, Cond.code yX4_isLessThanOne cX4_isLessThanOne 6 (some .boolean), Cond.methodLink RX4 77 yX0_figureOfOne, Cond.instanceMethod yX0_figureOfOne, Cond.selects RX0 yX0_figureOfOne yX0_figureOfOne, Cond.code yX0_figureOfOne cX0_figureOfOne 2 (some .int), Cond.methodLink RX6 131 yX4_shift, Cond.instanceMethod yX4_shift, Cond.selects RX4 yX4_shift yX4_shift, Cond.code yX4_shift cX4_shift 1 (some .int), Cond.methodLink RX6 134 yX4_reckon, Cond.instanceMethod yX4_reckon, Cond.selects RX4 yX4_reckon yX4_reckon, Cond.code yX4_reckon cX4_reckon 9 (some .boolean), Cond.methodLink RX4 55 yX0_raisedN, Cond.methodLink RX4 61 yX0_raisedM, Cond.methodLink RX6 146 yX6_spellWord, Cond.instanceMethod yX6_spellWord, Cond.selects RX6 yX6_spellWord yX6_spellWord]
def wsL_law_r15 : List Cond := [Cond.code yX6_spellWord cX6_spellWord 1 (some .boolean), Cond.methodLink RX6 226 yX5_spell, Cond.instanceMethod yX5_spell, Cond.selects RX5 yX5_spell yX5_spell, Cond.code yX5_spell cX5_spell 4 none, Cond.methodLink RX5 72 yX5_highestPlace, Cond.instanceMethod yX5_highestPlace, Cond.selects RX5 yX5_highestPlace yX5_highestPlace, Cond.code yX5_highestPlace cX5_highestPlace 7 (some .int), Cond.methodLink RX5 88 yX0_raisedM, Cond.methodLink RX5 92 yX0_raisedN, Cond.methodLink RX5 96 yX0_sign, Cond.methodLink RX5 76 yX5_spellAhead, Cond.instanceMethod yX5_spellAhead, Cond.selects RX5 yX5_spellAhead yX5_spellAhead, Cond.code yX5_spellAhead cX5_spellAhead 4 none, Cond.methodLink RX5 84 yX5_takeOut, Cond.instanceMethod yX5_takeOut, Cond.selects RX5 yX5_takeOut yX5_takeOut, Cond.code yX5_takeOut cX5_takeOut 7 (some .int), Cond.methodLink RX5 80 yX5_spellBehind, Cond.instanceMethod yX5_spellBehind, Cond.selects RX5 yX5_spellBehind yX5_spellBehind, Cond.code yX5_spellBehind cX5_spellBehind 3 none]
def wsL_law_r16 : List Cond := [Cond.methodLink RX5 100 yX5_isAnythingLeft, Cond.instanceMethod yX5_isAnythingLeft, Cond.selects RX5 yX5_isAnythingLeft yX5_isAnythingLeft, Cond.code yX5_isAnythingLeft cX5_isAnythingLeft 1 (some .boolean), Cond.methodLink RX5 104 yX5_lookForRound, Cond.instanceMethod yX5_lookForRound, Cond.selects RX5 yX5_lookForRound yX5_lookForRound, Cond.code yX5_lookForRound cX5_lookForRound 3 none, Cond.methodLink RX6 150 yX5_figureCount, Cond.instanceMethod yX5_figureCount, Cond.selects RX5 yX5_figureCount yX5_figureCount, Cond.code yX5_figureCount cX5_figureCount 1 (some .int), Cond.methodLink RL 41 yX7_told, Cond.instanceMethod yX7_told, Cond.selects RX7 yX7_told yX7_told, Cond.code yX7_told cX7_told 2 (some .int), Cond.fieldLink RX7 99 "RingBasesModel" "size" "I", Cond.methodLink RX7 88 yX7_wholeOf, Cond.instanceMethod yX7_wholeOf, Cond.selects RX7 yX7_wholeOf yX7_wholeOf, Cond.code yX7_wholeOf cX7_wholeOf 9 (some .long), Cond.methodLink RX7 58 yX7_rootOf, Cond.static yX7_rootOf, Cond.code yX7_rootOf cX7_rootOf 7 (some .long)]
def wsL_law_r17 : List Cond := [Cond.methodLink RX7 62 yX7_halfDown, Cond.static yX7_halfDown, Cond.code yX7_halfDown cX7_halfDown 2 (some .long), Cond.methodLink RX7 186 yX7_well, Cond.instanceMethod yX7_well, Cond.selects RX7 yX7_well yX7_well, Cond.code yX7_well cX7_well 1 (some .int), Cond.methodLink RX7 110 yX7_layRow, Cond.instanceMethod yX7_layRow, Cond.selects RX7 yX7_layRow yX7_layRow, Cond.code yX7_layRow cX7_layRow 3 none, Cond.methodLink RX7 113 yX7_figures, Cond.instanceMethod yX7_figures, Cond.selects RX7 yX7_figures yX7_figures, Cond.code yX7_figures cX7_figures 3 (some .int), Cond.methodLink RX7 144 yX7_isWell, Cond.instanceMethod yX7_isWell, Cond.selects RX7 yX7_isWell yX7_isWell, Cond.code yX7_isWell cX7_isWell 4 (some .boolean), Cond.methodLink RX7 106 yX7_isLess, Cond.instanceMethod yX7_isLess, Cond.selects RX7 yX7_isLess yX7_isLess, Cond.code yX7_isLess cX7_isLess 5 (some .boolean), Cond.methodLink RX7 102 yX7_oneAt]
def wsL_law_r18 : List Cond := [Cond.instanceMethod yX7_oneAt, Cond.selects RX7 yX7_oneAt yX7_oneAt, Cond.code yX7_oneAt cX7_oneAt 2 (some .int), Cond.methodLink RX7 189 yX7_badly, Cond.instanceMethod yX7_badly, Cond.selects RX7 yX7_badly yX7_badly, Cond.code yX7_badly cX7_badly 4 (some .int), Cond.methodLink RX7 117 yX7_pointAt, Cond.instanceMethod yX7_pointAt, Cond.selects RX7 yX7_pointAt yX7_pointAt, Cond.code yX7_pointAt cX7_pointAt 3 (some .int), Cond.methodLink RX7 192 yX7_shiftNow, Cond.instanceMethod yX7_shiftNow, Cond.selects RX7 yX7_shiftNow yX7_shiftNow, Cond.code yX7_shiftNow cX7_shiftNow 1 (some .int), Cond.methodLink RX7 195 yX7_worth, Cond.instanceMethod yX7_worth, Cond.selects RX7 yX7_worth yX7_worth, Cond.code yX7_worth cX7_worth 2 (some .int), Cond.fieldLink RX7 120 "RingBasesModel" "worthM" "J", Cond.fieldLink RX7 124 "RingBasesModel" "worthN" "J", Cond.constant RX7 185 (1000000), Cond.methodLink RX7 135 yX7_layWorth, Cond.instanceMethod yX7_layWorth]
def wsL_law_r19 : List Cond := [Cond.selects RX7 yX7_layWorth yX7_layWorth, Cond.code yX7_layWorth cX7_layWorth 5 (some .boolean), Cond.methodLink RX7 198 yX7_normalMany, Cond.instanceMethod yX7_normalMany, Cond.selects RX7 yX7_normalMany yX7_normalMany, Cond.code yX7_normalMany cX7_normalMany 1 (some .int), Cond.fieldLink RX7 65 "RingBasesModel" "high" "I", Cond.fieldLink RX7 78 "RingBasesModel" "behindMany" "I", Cond.methodLink RX7 141 yX7_layWritten, Cond.instanceMethod yX7_layWritten, Cond.selects RX7 yX7_layWritten yX7_layWritten, Cond.code yX7_layWritten cX7_layWritten 11 none, Cond.methodLink RX7 92 yX7_layPowers, Cond.instanceMethod yX7_layPowers, Cond.selects RX7 yX7_layPowers yX7_layPowers, Cond.code yX7_layPowers cX7_layPowers 6 none, Cond.methodLink RX7 96 yX7_layBehind, Cond.instanceMethod yX7_layBehind, Cond.selects RX7 yX7_layBehind yX7_layBehind, Cond.code yX7_layBehind cX7_layBehind 9 none, Cond.fieldLink RX7 81 "RingBasesModel" "ends" "I", Cond.fieldLink RX7 72 "RingBasesModel" "lead" "I", Cond.fieldLink RX7 75 "RingBasesModel" "round" "I", Cond.methodLink RX7 84 yX7_wasAhead]
def wsL_law_r20 : List Cond := [Cond.instanceMethod yX7_wasAhead, Cond.selects RX7 yX7_wasAhead yX7_wasAhead, Cond.code yX7_wasAhead cX7_wasAhead 3 (some .boolean), Cond.methodLink RL 42 yX6_shelf, Cond.instanceMethod yX6_shelf, Cond.selects RX6 yX6_shelf yX6_shelf, Cond.code yX6_shelf cX6_shelf 3 (some .int), Cond.methodLink RX6 157 yX6_spellShelf, Cond.instanceMethod yX6_spellShelf, Cond.selects RX6 yX6_spellShelf yX6_spellShelf, Cond.code yX6_spellShelf cX6_spellShelf 2 (some .boolean), Cond.methodLink RX6 160 yX5_tell, Cond.instanceMethod yX5_tell, Cond.selects RX5 yX5_tell yX5_tell, Cond.code yX5_tell cX5_tell 2 (some .int), Cond.methodLink RL 45 yX7_shelf, Cond.instanceMethod yX7_shelf, Cond.selects RX7 yX7_shelf yX7_shelf, Cond.code yX7_shelf cX7_shelf 3 (some .int), Cond.constantLong RX7 201 (7), Cond.methodLink RX7 203 yX7_writtenOf, Cond.instanceMethod yX7_writtenOf, Cond.selects RX7 yX7_writtenOf yX7_writtenOf, Cond.code yX7_writtenOf cX7_writtenOf 3 (some .int)]
def wsL_law_r21 : List Cond := [Cond.methodLink RL 46 yX6_figure, Cond.instanceMethod yX6_figure, Cond.selects RX6 yX6_figure yX6_figure, Cond.code yX6_figure cX6_figure 4 (some .int), Cond.methodLink RX6 166 yX5_hasFigure, Cond.instanceMethod yX5_hasFigure, Cond.selects RX5 yX5_hasFigure yX5_hasFigure, Cond.code yX5_hasFigure cX5_hasFigure 2 (some .boolean), Cond.methodLink RL 49 yX7_figure, Cond.instanceMethod yX7_figure, Cond.selects RX7 yX7_figure yX7_figure, Cond.code yX7_figure cX7_figure 3 (some .int), Cond.constantLong RX7 207 (-40), Cond.constantLong RX7 209 (60), Cond.methodLink RX7 211 yX7_figureAt, Cond.instanceMethod yX7_figureAt, Cond.selects RX7 yX7_figureAt yX7_figureAt, Cond.code yX7_figureAt cX7_figureAt 2 (some .int), Cond.methodLink RL 50 yX6_compare, Cond.instanceMethod yX6_compare, Cond.selects RX6 yX6_compare yX6_compare, Cond.code yX6_compare cX6_compare 3 (some .int), Cond.methodLink RL 53 yX7_compare, Cond.instanceMethod yX7_compare]
def wsL_law_r22 : List Cond := [Cond.selects RX7 yX7_compare yX7_compare, Cond.code yX7_compare cX7_compare 3 (some .int), Cond.methodLink RL 54 yX6_beside, Cond.instanceMethod yX6_beside, Cond.selects RX6 yX6_beside yX6_beside, Cond.code yX6_beside cX6_beside 4 (some .int), Cond.methodLink RL 57 yX7_beside, Cond.instanceMethod yX7_beside, Cond.selects RX7 yX7_beside yX7_beside, Cond.code yX7_beside cX7_beside 4 (some .int), Cond.methodLink RL 58 yX6_norm, Cond.instanceMethod yX6_norm, Cond.selects RX6 yX6_norm yX6_norm, Cond.code yX6_norm cX6_norm 6 (some .long), Cond.constantLong RX6 172 (-2000000001), Cond.methodLink RL 62 yX7_norm, Cond.instanceMethod yX7_norm, Cond.selects RX7 yX7_norm yX7_norm, Cond.code yX7_norm cX7_norm 6 (some .long), Cond.constantLong RX7 214 (-2000000001), Cond.methodLink RL 63 yX6_feed, Cond.instanceMethod yX6_feed, Cond.selects RX6 yX6_feed yX6_feed, Cond.code yX6_feed cX6_feed 4 (some .int)]
def wsL_law_r23 : List Cond := [Cond.methodLink RX6 174 yX4_hasPoint, Cond.methodLink RX6 177 yX4_addPoint, Cond.instanceMethod yX4_addPoint, Cond.selects RX4 yX4_addPoint yX4_addPoint, Cond.code yX4_addPoint cX4_addPoint 1 none, Cond.methodLink RX6 180 yX4_addFigure, Cond.instanceMethod yX4_addFigure, Cond.selects RX4 yX4_addFigure yX4_addFigure, Cond.code yX4_addFigure cX4_addFigure 2 none, Cond.methodLink RL 66 yX7_feed, Cond.instanceMethod yX7_feed, Cond.selects RX7 yX7_feed yX7_feed, Cond.code yX7_feed cX7_feed 3 (some .int), Cond.constantLong RX7 216 (48), Cond.constantLong RX7 218 (57), Cond.methodLink RL 67 yX6_clear, Cond.instanceMethod yX6_clear, Cond.selects RX6 yX6_clear yX6_clear, Cond.code yX6_clear cX6_clear 2 (some .int), Cond.methodLink RX6 184 yX4_empty, Cond.instanceMethod yX4_empty, Cond.selects RX4 yX4_empty yX4_empty, Cond.code yX4_empty cX4_empty 1 none, Cond.methodLink RL 70 yX7_clear]
def wsL_law_r24 : List Cond := [Cond.instanceMethod yX7_clear, Cond.selects RX7 yX7_clear yX7_clear, Cond.code yX7_clear cX7_clear 2 (some .int), Cond.methodLink RL 71 yX6_normal, Cond.instanceMethod yX6_normal, Cond.selects RX6 yX6_normal yX6_normal, Cond.code yX6_normal cX6_normal 2 (some .int), Cond.methodLink RL 74 yX7_normal, Cond.instanceMethod yX7_normal, Cond.selects RX7 yX7_normal yX7_normal, Cond.code yX7_normal cX7_normal 3 (some .int), Cond.methodLink RL 75 yX6_next, Cond.instanceMethod yX6_next, Cond.selects RX6 yX6_next yX6_next, Cond.code yX6_next cX6_next 2 (some .int), Cond.methodLink RX6 188 yX4_findFollower, Cond.instanceMethod yX4_findFollower, Cond.selects RX4 yX4_findFollower yX4_findFollower, Cond.code yX4_findFollower cX4_findFollower 3 (some .boolean), Cond.methodLink RX4 81 arraycopyName, Cond.methodLink RL 78 yX7_next, Cond.instanceMethod yX7_next, Cond.selects RX7 yX7_next yX7_next, Cond.code yX7_next cX7_next 2 (some .int)]
def wsL_law_r25 : List Cond := [Cond.methodLink RX7 220 yX7_layNext, Cond.instanceMethod yX7_layNext, Cond.selects RX7 yX7_layNext yX7_layNext, Cond.code yX7_layNext cX7_layNext 5 (some .boolean), Cond.methodLink RL 79 yX6_one, Cond.instanceMethod yX6_one, Cond.selects RX6 yX6_one yX6_one, Cond.code yX6_one cX6_one 2 (some .int), Cond.methodLink RX6 194 yX0_figureOfOne, Cond.methodLink RL 82 yX7_one, Cond.instanceMethod yX7_one, Cond.selects RX7 yX7_one yX7_one, Cond.code yX7_one cX7_one 2 (some .int), Cond.methodLink RL 83 yX6_read, Cond.instanceMethod yX6_read, Cond.selects RX6 yX6_read yX6_read, Cond.code yX6_read cX6_read 2 (some .int), Cond.methodLink RL 86 yX7_read, Cond.instanceMethod yX7_read, Cond.selects RX7 yX7_read yX7_read, Cond.code yX7_read cX7_read 2 (some .int), Cond.methodLink RL 87 yX6_write, Cond.instanceMethod yX6_write, Cond.selects RX6 yX6_write yX6_write]
def wsL_law_r26 : List Cond := [Cond.code yX6_write cX6_write 3 (some .int), Cond.methodLink RX6 200 yX4_copyFrom, Cond.instanceMethod yX4_copyFrom, Cond.selects RX4 yX4_copyFrom yX4_copyFrom, Cond.code yX4_copyFrom cX4_copyFrom 3 none, Cond.methodLink RX4 35 yX4_empty, Cond.methodLink RX4 38 yX5_figureCount, Cond.methodLink RX4 45 yX4_addFigure, Cond.methodLink RL 90 yX7_write, Cond.instanceMethod yX7_write, Cond.selects RX7 yX7_write yX7_write, Cond.code yX7_write cX7_write 4 (some .int), Cond.methodLink RL 91 yX6_keep, Cond.instanceMethod yX6_keep, Cond.selects RX6 yX6_keep yX6_keep, Cond.code yX6_keep cX6_keep 2 (some .int), Cond.methodLink RX6 204 yX2_take, Cond.instanceMethod yX2_take, Cond.selects RX2 yX2_take yX2_take, Cond.code yX2_take cX2_take 3 none, Cond.methodLink RX2 19 yX3_copyInto, Cond.methodLink RX6 208 yX1_forget, Cond.instanceMethod yX1_forget, Cond.selects RX1 yX1_forget yX1_forget]
def wsL_law_r27 : List Cond := [Cond.code yX1_forget cX1_forget 1 none, Cond.methodLink RL 94 yX7_keep, Cond.instanceMethod yX7_keep, Cond.selects RX7 yX7_keep yX7_keep, Cond.code yX7_keep cX7_keep 2 (some .int), Cond.fieldLink RX7 223 "RingBasesModel" "kept" "I", Cond.methodLink RL 95 yX6_goBack, Cond.instanceMethod yX6_goBack, Cond.selects RX6 yX6_goBack yX6_goBack, Cond.code yX6_goBack cX6_goBack 2 (some .int), Cond.methodLink RX6 215 yX2_give, Cond.instanceMethod yX2_give, Cond.selects RX2 yX2_give yX2_give, Cond.code yX2_give cX2_give 3 none, Cond.methodLink RX2 25 yX3_copyFrom, Cond.methodLink RL 98 yX7_goBack, Cond.instanceMethod yX7_goBack, Cond.selects RX7 yX7_goBack yX7_goBack, Cond.code yX7_goBack cX7_goBack 2 (some .int), Cond.methodLink RX7 226 yX7_has, Cond.static yX7_has, Cond.code yX7_has cX7_has 2 (some .boolean)]
def wsL_law : List Cond := (wsL_law_r1 ++ (wsL_law_r2 ++ (wsL_law_r3 ++ (wsL_law_r4 ++ (wsL_law_r5 ++ (wsL_law_r6 ++ (wsL_law_r7 ++ (wsL_law_r8 ++ (wsL_law_r9 ++ (wsL_law_r10 ++ (wsL_law_r11 ++ (wsL_law_r12 ++ (wsL_law_r13 ++ (wsL_law_r14 ++ (wsL_law_r15 ++ (wsL_law_r16 ++ (wsL_law_r17 ++ (wsL_law_r18 ++ (wsL_law_r19 ++ (wsL_law_r20 ++ (wsL_law_r21 ++ (wsL_law_r22 ++ (wsL_law_r23 ++ (wsL_law_r24 ++ (wsL_law_r25 ++ (wsL_law_r26 ++ wsL_law_r27)))))))))))))))))))))))))) ++ wsX60 ++ wsX70 ++ wsX30 ++ wsX10 ++ wsX20 ++ wsX40 ++ wsX50 ++ wsX00 ++ ([] : List Cond)
theorem inlX0 : ∀ w ∈ wsX00, w ∈ wsL_law := fun _ h => List.mem_append_left _ (List.mem_append_right _ h)
theorem inlX1 : ∀ w ∈ wsX10, w ∈ wsL_law := fun _ h => List.mem_append_left _ (List.mem_append_left _ (List.mem_append_left _ (List.mem_append_left _ (List.mem_append_left _ (List.mem_append_right _ h)))))
theorem inlX2 : ∀ w ∈ wsX20, w ∈ wsL_law := fun _ h => List.mem_append_left _ (List.mem_append_left _ (List.mem_append_left _ (List.mem_append_left _ (List.mem_append_right _ h))))
theorem inlX3 : ∀ w ∈ wsX30, w ∈ wsL_law := fun _ h => List.mem_append_left _ (List.mem_append_left _ (List.mem_append_left _ (List.mem_append_left _ (List.mem_append_left _ (List.mem_append_left _ (List.mem_append_right _ h))))))
theorem inlX4 : ∀ w ∈ wsX40, w ∈ wsL_law := fun _ h => List.mem_append_left _ (List.mem_append_left _ (List.mem_append_left _ (List.mem_append_right _ h)))
theorem inlX5 : ∀ w ∈ wsX50, w ∈ wsL_law := fun _ h => List.mem_append_left _ (List.mem_append_left _ (List.mem_append_right _ h))
theorem inlX6 : ∀ w ∈ wsX60, w ∈ wsL_law := fun _ h => List.mem_append_left _ (List.mem_append_left _ (List.mem_append_left _ (List.mem_append_left _ (List.mem_append_left _ (List.mem_append_left _ (List.mem_append_left _ (List.mem_append_left _ (List.mem_append_right _ h))))))))
theorem inlX7 : ∀ w ∈ wsX70, w ∈ wsL_law := fun _ h => List.mem_append_left _ (List.mem_append_left _ (List.mem_append_left _ (List.mem_append_left _ (List.mem_append_left _ (List.mem_append_left _ (List.mem_append_left _ (List.mem_append_right _ h)))))))
theorem inJ13 : ∀ w ∈ wsJ130, w ∈ lw_tbl := by decide +kernel
theorem inJ9 : ∀ w ∈ wsJ90, w ∈ lw_tbl := by decide +kernel
theorem inJ10 : ∀ w ∈ wsJ100, w ∈ lw_tbl := by decide +kernel
theorem dX0_init_0 : decode cX0_init 0 = .ok (.aload_n 0, 1) := by decide +kernel
theorem dX0_init_1 : decode cX0_init 1 = .ok (.invokespecial 3, 3) := by decide +kernel
theorem dX0_init_4 : decode cX0_init 4 = .ok (.aload_n 0, 1) := by decide +kernel
theorem dX0_init_5 : decode cX0_init 5 = .ok (.iconst 1, 1) := by decide +kernel
theorem dX0_init_6 : decode cX0_init 6 = .ok (.putfield 9, 3) := by decide +kernel
theorem dX0_init_9 : decode cX0_init 9 = .ok (.aload_n 0, 1) := by decide +kernel
theorem dX0_init_10 : decode cX0_init 10 = .ok (.iconst 1, 1) := by decide +kernel
theorem dX0_init_11 : decode cX0_init 11 = .ok (.putfield 15, 3) := by decide +kernel
theorem dX0_init_14 : decode cX0_init 14 = .ok (.return_, 1) := by decide +kernel
theorem dX0_canBe_0 : decode cX0_canBe 0 = .ok (.iload_n 0, 1) := by decide +kernel
theorem dX0_canBe_1 : decode cX0_canBe 1 = .ok (.iconst 1, 1) := by decide +kernel
theorem dX0_canBe_2 : decode cX0_canBe 2 = .ok (.if_icmp .lt 9, 3) := by decide +kernel
theorem dX0_canBe_5 : decode cX0_canBe 5 = .ok (.iload_n 0, 1) := by decide +kernel
theorem dX0_canBe_6 : decode cX0_canBe 6 = .ok (.bipush 9, 2) := by decide +kernel
theorem dX0_canBe_8 : decode cX0_canBe 8 = .ok (.if_icmp .le 5, 3) := by decide +kernel
theorem dX0_canBe_11 : decode cX0_canBe 11 = .ok (.iconst 0, 1) := by decide +kernel
theorem dX0_canBe_12 : decode cX0_canBe 12 = .ok (.ireturn, 1) := by decide +kernel
theorem dX0_canBe_13 : decode cX0_canBe 13 = .ok (.iload_n 1, 1) := by decide +kernel
theorem dX0_canBe_14 : decode cX0_canBe 14 = .ok (.iconst 1, 1) := by decide +kernel
theorem dX0_canBe_15 : decode cX0_canBe 15 = .ok (.if_icmp .lt 8, 3) := by decide +kernel
theorem dX0_canBe_18 : decode cX0_canBe 18 = .ok (.iload_n 1, 1) := by decide +kernel
theorem dX0_canBe_19 : decode cX0_canBe 19 = .ok (.iload_n 0, 1) := by decide +kernel
theorem dX0_canBe_20 : decode cX0_canBe 20 = .ok (.if_icmp .le 15, 3) := by decide +kernel
theorem dX0_canBe_23 : decode cX0_canBe 23 = .ok (.iload_n 1, 1) := by decide +kernel
theorem dX0_canBe_24 : decode cX0_canBe 24 = .ok (.iconst (-1), 1) := by decide +kernel
theorem dX0_canBe_25 : decode cX0_canBe 25 = .ok (.if_icmp .gt 14, 3) := by decide +kernel
theorem dX0_canBe_28 : decode cX0_canBe 28 = .ok (.iload_n 1, 1) := by decide +kernel
theorem dX0_canBe_29 : decode cX0_canBe 29 = .ok (.iconst 2, 1) := by decide +kernel
theorem dX0_canBe_30 : decode cX0_canBe 30 = .ok (.iload_n 0, 1) := by decide +kernel
theorem dX0_canBe_31 : decode cX0_canBe 31 = .ok (.isub, 1) := by decide +kernel
theorem dX0_canBe_32 : decode cX0_canBe 32 = .ok (.if_icmp .lt 7, 3) := by decide +kernel
theorem dX0_canBe_35 : decode cX0_canBe 35 = .ok (.iconst 1, 1) := by decide +kernel
theorem dX0_canBe_36 : decode cX0_canBe 36 = .ok (.goto 4, 3) := by decide +kernel
theorem dX0_canBe_39 : decode cX0_canBe 39 = .ok (.iconst 0, 1) := by decide +kernel
theorem dX0_canBe_40 : decode cX0_canBe 40 = .ok (.ireturn, 1) := by decide +kernel
theorem dX0_become_0 : decode cX0_become 0 = .ok (.aload_n 0, 1) := by decide +kernel
theorem dX0_become_1 : decode cX0_become 1 = .ok (.iload_n 1, 1) := by decide +kernel
theorem dX0_become_2 : decode cX0_become 2 = .ok (.putfield 9, 3) := by decide +kernel
theorem dX0_become_5 : decode cX0_become 5 = .ok (.aload_n 0, 1) := by decide +kernel
theorem dX0_become_6 : decode cX0_become 6 = .ok (.iload_n 2, 1) := by decide +kernel
theorem dX0_become_7 : decode cX0_become 7 = .ok (.putfield 15, 3) := by decide +kernel
theorem dX0_become_10 : decode cX0_become 10 = .ok (.return_, 1) := by decide +kernel
theorem dX0_top_0 : decode cX0_top 0 = .ok (.aload_n 0, 1) := by decide +kernel
theorem dX0_top_1 : decode cX0_top 1 = .ok (.getfield 15, 3) := by decide +kernel
theorem dX0_top_4 : decode cX0_top 4 = .ok (.ifCond .le 10, 3) := by decide +kernel
theorem dX0_top_7 : decode cX0_top 7 = .ok (.aload_n 0, 1) := by decide +kernel
theorem dX0_top_8 : decode cX0_top 8 = .ok (.getfield 9, 3) := by decide +kernel
theorem dX0_top_11 : decode cX0_top 11 = .ok (.goto 9, 3) := by decide +kernel
theorem dX0_top_14 : decode cX0_top 14 = .ok (.aload_n 0, 1) := by decide +kernel
theorem dX0_top_15 : decode cX0_top 15 = .ok (.getfield 9, 3) := by decide +kernel
theorem dX0_top_18 : decode cX0_top 18 = .ok (.iconst 1, 1) := by decide +kernel
theorem dX0_top_19 : decode cX0_top 19 = .ok (.isub, 1) := by decide +kernel
theorem dX0_top_20 : decode cX0_top 20 = .ok (.ireturn, 1) := by decide +kernel
theorem dX0_figureOfOne_0 : decode cX0_figureOfOne 0 = .ok (.aload_n 0, 1) := by decide +kernel
theorem dX0_figureOfOne_1 : decode cX0_figureOfOne 1 = .ok (.getfield 15, 3) := by decide +kernel
theorem dX0_figureOfOne_4 : decode cX0_figureOfOne 4 = .ok (.ifCond .le 23, 3) := by decide +kernel
theorem dX0_figureOfOne_7 : decode cX0_figureOfOne 7 = .ok (.iload_n 1, 1) := by decide +kernel
theorem dX0_figureOfOne_8 : decode cX0_figureOfOne 8 = .ok (.iconst 2, 1) := by decide +kernel
theorem dX0_figureOfOne_9 : decode cX0_figureOfOne 9 = .ok (.irem, 1) := by decide +kernel
theorem dX0_figureOfOne_10 : decode cX0_figureOfOne 10 = .ok (.ifCond .ne 10, 3) := by decide +kernel
theorem dX0_figureOfOne_13 : decode cX0_figureOfOne 13 = .ok (.aload_n 0, 1) := by decide +kernel
theorem dX0_figureOfOne_14 : decode cX0_figureOfOne 14 = .ok (.getfield 9, 3) := by decide +kernel
theorem dX0_figureOfOne_17 : decode cX0_figureOfOne 17 = .ok (.goto 9, 3) := by decide +kernel
theorem dX0_figureOfOne_20 : decode cX0_figureOfOne 20 = .ok (.aload_n 0, 1) := by decide +kernel
theorem dX0_figureOfOne_21 : decode cX0_figureOfOne 21 = .ok (.getfield 15, 3) := by decide +kernel
theorem dX0_figureOfOne_24 : decode cX0_figureOfOne 24 = .ok (.iconst 1, 1) := by decide +kernel
theorem dX0_figureOfOne_25 : decode cX0_figureOfOne 25 = .ok (.isub, 1) := by decide +kernel
theorem dX0_figureOfOne_26 : decode cX0_figureOfOne 26 = .ok (.ireturn, 1) := by decide +kernel
theorem dX0_figureOfOne_27 : decode cX0_figureOfOne 27 = .ok (.iload_n 1, 1) := by decide +kernel
theorem dX0_figureOfOne_28 : decode cX0_figureOfOne 28 = .ok (.ifCond .ne 12, 3) := by decide +kernel
theorem dX0_figureOfOne_31 : decode cX0_figureOfOne 31 = .ok (.aload_n 0, 1) := by decide +kernel
theorem dX0_figureOfOne_32 : decode cX0_figureOfOne 32 = .ok (.getfield 9, 3) := by decide +kernel
theorem dX0_figureOfOne_35 : decode cX0_figureOfOne 35 = .ok (.iconst 1, 1) := by decide +kernel
theorem dX0_figureOfOne_36 : decode cX0_figureOfOne 36 = .ok (.isub, 1) := by decide +kernel
theorem dX0_figureOfOne_37 : decode cX0_figureOfOne 37 = .ok (.goto 14, 3) := by decide +kernel
theorem dX0_figureOfOne_40 : decode cX0_figureOfOne 40 = .ok (.aload_n 0, 1) := by decide +kernel
theorem dX0_figureOfOne_41 : decode cX0_figureOfOne 41 = .ok (.getfield 9, 3) := by decide +kernel
theorem dX0_figureOfOne_44 : decode cX0_figureOfOne 44 = .ok (.aload_n 0, 1) := by decide +kernel
theorem dX0_figureOfOne_45 : decode cX0_figureOfOne 45 = .ok (.getfield 15, 3) := by decide +kernel
theorem dX0_figureOfOne_48 : decode cX0_figureOfOne 48 = .ok (.iadd, 1) := by decide +kernel
theorem dX0_figureOfOne_49 : decode cX0_figureOfOne 49 = .ok (.iconst 1, 1) := by decide +kernel
theorem dX0_figureOfOne_50 : decode cX0_figureOfOne 50 = .ok (.isub, 1) := by decide +kernel
theorem dX0_figureOfOne_51 : decode cX0_figureOfOne 51 = .ok (.ireturn, 1) := by decide +kernel
theorem dX0_raisedM_0 : decode cX0_raisedM 0 = .ok (.lload_n 1, 1) := by decide +kernel
theorem dX0_raisedM_1 : decode cX0_raisedM 1 = .ok (.aload_n 0, 1) := by decide +kernel
theorem dX0_raisedM_2 : decode cX0_raisedM 2 = .ok (.getfield 15, 3) := by decide +kernel
theorem dX0_raisedM_5 : decode cX0_raisedM 5 = .ok (.i2l, 1) := by decide +kernel
theorem dX0_raisedM_6 : decode cX0_raisedM 6 = .ok (.lmul, 1) := by decide +kernel
theorem dX0_raisedM_7 : decode cX0_raisedM 7 = .ok (.lreturn, 1) := by decide +kernel
theorem dX0_raisedN_0 : decode cX0_raisedN 0 = .ok (.lload_n 1, 1) := by decide +kernel
theorem dX0_raisedN_1 : decode cX0_raisedN 1 = .ok (.lload_n 3, 1) := by decide +kernel
theorem dX0_raisedN_2 : decode cX0_raisedN 2 = .ok (.aload_n 0, 1) := by decide +kernel
theorem dX0_raisedN_3 : decode cX0_raisedN 3 = .ok (.getfield 9, 3) := by decide +kernel
theorem dX0_raisedN_6 : decode cX0_raisedN 6 = .ok (.i2l, 1) := by decide +kernel
theorem dX0_raisedN_7 : decode cX0_raisedN 7 = .ok (.lmul, 1) := by decide +kernel
theorem dX0_raisedN_8 : decode cX0_raisedN 8 = .ok (.ladd, 1) := by decide +kernel
theorem dX0_raisedN_9 : decode cX0_raisedN 9 = .ok (.lreturn, 1) := by decide +kernel
theorem dX0_rootsApartSquared_0 : decode cX0_rootsApartSquared 0 = .ok (.aload_n 0, 1) := by decide +kernel
theorem dX0_rootsApartSquared_1 : decode cX0_rootsApartSquared 1 = .ok (.getfield 9, 3) := by decide +kernel
theorem dX0_rootsApartSquared_4 : decode cX0_rootsApartSquared 4 = .ok (.i2l, 1) := by decide +kernel
theorem dX0_rootsApartSquared_5 : decode cX0_rootsApartSquared 5 = .ok (.aload_n 0, 1) := by decide +kernel
theorem dX0_rootsApartSquared_6 : decode cX0_rootsApartSquared 6 = .ok (.getfield 9, 3) := by decide +kernel
theorem dX0_rootsApartSquared_9 : decode cX0_rootsApartSquared 9 = .ok (.i2l, 1) := by decide +kernel
theorem dX0_rootsApartSquared_10 : decode cX0_rootsApartSquared 10 = .ok (.lmul, 1) := by decide +kernel
theorem dX0_rootsApartSquared_11 : decode cX0_rootsApartSquared 11 = .ok (.ldc2_w 18, 3) := by decide +kernel
theorem dX0_rootsApartSquared_14 : decode cX0_rootsApartSquared 14 = .ok (.aload_n 0, 1) := by decide +kernel
theorem dX0_rootsApartSquared_15 : decode cX0_rootsApartSquared 15 = .ok (.getfield 15, 3) := by decide +kernel
theorem dX0_rootsApartSquared_18 : decode cX0_rootsApartSquared 18 = .ok (.i2l, 1) := by decide +kernel
theorem dX0_rootsApartSquared_19 : decode cX0_rootsApartSquared 19 = .ok (.lmul, 1) := by decide +kernel
theorem dX0_rootsApartSquared_20 : decode cX0_rootsApartSquared 20 = .ok (.ladd, 1) := by decide +kernel
theorem dX0_rootsApartSquared_21 : decode cX0_rootsApartSquared 21 = .ok (.lreturn, 1) := by decide +kernel
set_option maxRecDepth 20000 in
theorem ggX0_sign_J13_compare_74951 : GoodIn wsX0_sign wsJ13_compare_74951 := goodIn_r _ [6] (by decide +kernel) (by decide +kernel)
set_option maxRecDepth 20000 in
theorem gX0_sign_J13_compare_74951 : GoodIn wsX0_sign (va_wsS RX0 22 yJ13_compare_74951 wsJ13_compare_74951) := goodIn_app (goodIn_of _ (by decide +kernel)) ggX0_sign_J13_compare_74951
set_option maxRecDepth 20000 in
theorem ggX0_sign_X0_rootsApartSquared : GoodIn wsX0_sign wsX0_rootsApartSquared := goodIn_r _ [11, 2, 12, 13, 14, 15] (by decide +kernel) (by decide +kernel)
set_option maxRecDepth 20000 in
theorem gX0_sign_X0_rootsApartSquared : GoodIn wsX0_sign (wsV RX0 28 RX0 yX0_rootsApartSquared wsX0_rootsApartSquared) := goodIn_app (goodIn_of _ (by decide +kernel)) ggX0_sign_X0_rootsApartSquared
theorem dX0_sign_0 : decode cX0_sign 0 = .ok (.ldc2_w 20, 3) := by decide +kernel
theorem dX0_sign_3 : decode cX0_sign 3 = .ok (.lload_n 1, 1) := by decide +kernel
theorem dX0_sign_4 : decode cX0_sign 4 = .ok (.lmul, 1) := by decide +kernel
theorem dX0_sign_5 : decode cX0_sign 5 = .ok (.lload_n 3, 1) := by decide +kernel
theorem dX0_sign_6 : decode cX0_sign 6 = .ok (.aload_n 0, 1) := by decide +kernel
theorem dX0_sign_7 : decode cX0_sign 7 = .ok (.getfield 9, 3) := by decide +kernel
theorem dX0_sign_10 : decode cX0_sign 10 = .ok (.i2l, 1) := by decide +kernel
theorem dX0_sign_11 : decode cX0_sign 11 = .ok (.lmul, 1) := by decide +kernel
theorem dX0_sign_12 : decode cX0_sign 12 = .ok (.ladd, 1) := by decide +kernel
theorem dX0_sign_13 : decode cX0_sign 13 = .ok (.lstore 5, 2) := by decide +kernel
theorem dX0_sign_15 : decode cX0_sign 15 = .ok (.lload 5, 2) := by decide +kernel
theorem dX0_sign_17 : decode cX0_sign 17 = .ok (.lconst 0, 1) := by decide +kernel
theorem dX0_sign_18 : decode cX0_sign 18 = .ok (.invokestatic 22, 3) := by decide +kernel
theorem dX0_sign_21 : decode cX0_sign 21 = .ok (.istore 7, 2) := by decide +kernel
theorem dX0_sign_23 : decode cX0_sign 23 = .ok (.lload_n 3, 1) := by decide +kernel
theorem dX0_sign_24 : decode cX0_sign 24 = .ok (.lconst 0, 1) := by decide +kernel
theorem dX0_sign_25 : decode cX0_sign 25 = .ok (.invokestatic 22, 3) := by decide +kernel
theorem dX0_sign_28 : decode cX0_sign 28 = .ok (.istore 8, 2) := by decide +kernel
theorem dX0_sign_30 : decode cX0_sign 30 = .ok (.iload 8, 2) := by decide +kernel
theorem dX0_sign_32 : decode cX0_sign 32 = .ok (.ifCond .eq 10, 3) := by decide +kernel
theorem dX0_sign_35 : decode cX0_sign 35 = .ok (.iload 8, 2) := by decide +kernel
theorem dX0_sign_37 : decode cX0_sign 37 = .ok (.iload 7, 2) := by decide +kernel
theorem dX0_sign_39 : decode cX0_sign 39 = .ok (.if_icmp .ne 6, 3) := by decide +kernel
theorem dX0_sign_42 : decode cX0_sign 42 = .ok (.iload 7, 2) := by decide +kernel
theorem dX0_sign_44 : decode cX0_sign 44 = .ok (.ireturn, 1) := by decide +kernel
theorem dX0_sign_45 : decode cX0_sign 45 = .ok (.lload 5, 2) := by decide +kernel
theorem dX0_sign_47 : decode cX0_sign 47 = .ok (.lload 5, 2) := by decide +kernel
theorem dX0_sign_49 : decode cX0_sign 49 = .ok (.lmul, 1) := by decide +kernel
theorem dX0_sign_50 : decode cX0_sign 50 = .ok (.lload_n 3, 1) := by decide +kernel
theorem dX0_sign_51 : decode cX0_sign 51 = .ok (.lload_n 3, 1) := by decide +kernel
theorem dX0_sign_52 : decode cX0_sign 52 = .ok (.lmul, 1) := by decide +kernel
theorem dX0_sign_53 : decode cX0_sign 53 = .ok (.aload_n 0, 1) := by decide +kernel
theorem dX0_sign_54 : decode cX0_sign 54 = .ok (.invokevirtual 28, 3) := by decide +kernel
theorem dX0_sign_57 : decode cX0_sign 57 = .ok (.lmul, 1) := by decide +kernel
theorem dX0_sign_58 : decode cX0_sign 58 = .ok (.lcmp, 1) := by decide +kernel
theorem dX0_sign_59 : decode cX0_sign 59 = .ok (.ifCond .le 8, 3) := by decide +kernel
theorem dX0_sign_62 : decode cX0_sign 62 = .ok (.iload 7, 2) := by decide +kernel
theorem dX0_sign_64 : decode cX0_sign 64 = .ok (.goto 5, 3) := by decide +kernel
theorem dX0_sign_67 : decode cX0_sign 67 = .ok (.iload 8, 2) := by decide +kernel
theorem dX0_sign_69 : decode cX0_sign 69 = .ok (.ireturn, 1) := by decide +kernel
set_option maxRecDepth 20000 in
theorem ggX0_wholePart_X0_rootsApartSquared : GoodIn wsX0_wholePart wsX0_rootsApartSquared := goodIn_r _ [11, 5, 12, 13, 18, 19] (by decide +kernel) (by decide +kernel)
set_option maxRecDepth 20000 in
theorem gX0_wholePart_X0_rootsApartSquared : GoodIn wsX0_wholePart (wsV RX0 28 RX0 yX0_rootsApartSquared wsX0_rootsApartSquared) := goodIn_app (goodIn_of _ (by decide +kernel)) ggX0_wholePart_X0_rootsApartSquared
set_option maxRecDepth 20000 in
theorem ggX0_wholePart_X0_squareRoot : GoodIn wsX0_wholePart wsX0_squareRoot := goodIn_r _ [16, 17] (by decide +kernel) (by decide +kernel)
set_option maxRecDepth 20000 in
theorem gX0_wholePart_X0_squareRoot : GoodIn wsX0_wholePart (va_wsS RX0 38 yX0_squareRoot wsX0_squareRoot) := goodIn_app (goodIn_of _ (by decide +kernel)) ggX0_wholePart_X0_squareRoot
theorem dX0_wholePart_0 : decode cX0_wholePart 0 = .ok (.lload_n 3, 1) := by decide +kernel
theorem dX0_wholePart_1 : decode cX0_wholePart 1 = .ok (.invokestatic 32, 3) := by decide +kernel
theorem dX0_wholePart_4 : decode cX0_wholePart 4 = .ok (.lstore 5, 2) := by decide +kernel
theorem dX0_wholePart_6 : decode cX0_wholePart 6 = .ok (.lload 5, 2) := by decide +kernel
theorem dX0_wholePart_8 : decode cX0_wholePart 8 = .ok (.aload_n 0, 1) := by decide +kernel
theorem dX0_wholePart_9 : decode cX0_wholePart 9 = .ok (.getfield 9, 3) := by decide +kernel
theorem dX0_wholePart_12 : decode cX0_wholePart 12 = .ok (.i2l, 1) := by decide +kernel
theorem dX0_wholePart_13 : decode cX0_wholePart 13 = .ok (.lmul, 1) := by decide +kernel
theorem dX0_wholePart_14 : decode cX0_wholePart 14 = .ok (.lload 5, 2) := by decide +kernel
theorem dX0_wholePart_16 : decode cX0_wholePart 16 = .ok (.lload 5, 2) := by decide +kernel
theorem dX0_wholePart_18 : decode cX0_wholePart 18 = .ok (.lmul, 1) := by decide +kernel
theorem dX0_wholePart_19 : decode cX0_wholePart 19 = .ok (.aload_n 0, 1) := by decide +kernel
theorem dX0_wholePart_20 : decode cX0_wholePart 20 = .ok (.invokevirtual 28, 3) := by decide +kernel
theorem dX0_wholePart_23 : decode cX0_wholePart 23 = .ok (.lmul, 1) := by decide +kernel
theorem dX0_wholePart_24 : decode cX0_wholePart 24 = .ok (.invokestatic 38, 3) := by decide +kernel
theorem dX0_wholePart_27 : decode cX0_wholePart 27 = .ok (.ladd, 1) := by decide +kernel
theorem dX0_wholePart_28 : decode cX0_wholePart 28 = .ok (.ldc2_w 20, 3) := by decide +kernel
theorem dX0_wholePart_31 : decode cX0_wholePart 31 = .ok (.ldiv, 1) := by decide +kernel
theorem dX0_wholePart_32 : decode cX0_wholePart 32 = .ok (.lstore 7, 2) := by decide +kernel
theorem dX0_wholePart_34 : decode cX0_wholePart 34 = .ok (.lload_n 3, 1) := by decide +kernel
theorem dX0_wholePart_35 : decode cX0_wholePart 35 = .ok (.lconst 0, 1) := by decide +kernel
theorem dX0_wholePart_36 : decode cX0_wholePart 36 = .ok (.lcmp, 1) := by decide +kernel
theorem dX0_wholePart_37 : decode cX0_wholePart 37 = .ok (.ifCond .lt 8, 3) := by decide +kernel
theorem dX0_wholePart_40 : decode cX0_wholePart 40 = .ok (.lload_n 1, 1) := by decide +kernel
theorem dX0_wholePart_41 : decode cX0_wholePart 41 = .ok (.lload 7, 2) := by decide +kernel
theorem dX0_wholePart_43 : decode cX0_wholePart 43 = .ok (.ladd, 1) := by decide +kernel
theorem dX0_wholePart_44 : decode cX0_wholePart 44 = .ok (.lreturn, 1) := by decide +kernel
theorem dX0_wholePart_45 : decode cX0_wholePart 45 = .ok (.lload_n 1, 1) := by decide +kernel
theorem dX0_wholePart_46 : decode cX0_wholePart 46 = .ok (.lload 7, 2) := by decide +kernel
theorem dX0_wholePart_48 : decode cX0_wholePart 48 = .ok (.lsub, 1) := by decide +kernel
theorem dX0_wholePart_49 : decode cX0_wholePart 49 = .ok (.lconst 1, 1) := by decide +kernel
theorem dX0_wholePart_50 : decode cX0_wholePart 50 = .ok (.lsub, 1) := by decide +kernel
theorem dX0_wholePart_51 : decode cX0_wholePart 51 = .ok (.lreturn, 1) := by decide +kernel
theorem dX0_squareRoot_0 : decode cX0_squareRoot 0 = .ok (.lconst 0, 1) := by decide +kernel
theorem dX0_squareRoot_1 : decode cX0_squareRoot 1 = .ok (.lstore_n 2, 1) := by decide +kernel
theorem dX0_squareRoot_2 : decode cX0_squareRoot 2 = .ok (.ldc2_w 41, 3) := by decide +kernel
theorem dX0_squareRoot_5 : decode cX0_squareRoot 5 = .ok (.lstore 4, 2) := by decide +kernel
theorem dX0_squareRoot_7 : decode cX0_squareRoot 7 = .ok (.lload 4, 2) := by decide +kernel
theorem dX0_squareRoot_9 : decode cX0_squareRoot 9 = .ok (.lconst 0, 1) := by decide +kernel
theorem dX0_squareRoot_10 : decode cX0_squareRoot 10 = .ok (.lcmp, 1) := by decide +kernel
theorem dX0_squareRoot_11 : decode cX0_squareRoot 11 = .ok (.ifCond .le 31, 3) := by decide +kernel
theorem dX0_squareRoot_14 : decode cX0_squareRoot 14 = .ok (.lload_n 2, 1) := by decide +kernel
theorem dX0_squareRoot_15 : decode cX0_squareRoot 15 = .ok (.lload 4, 2) := by decide +kernel
theorem dX0_squareRoot_17 : decode cX0_squareRoot 17 = .ok (.ladd, 1) := by decide +kernel
theorem dX0_squareRoot_18 : decode cX0_squareRoot 18 = .ok (.lstore 6, 2) := by decide +kernel
theorem dX0_squareRoot_20 : decode cX0_squareRoot 20 = .ok (.lload 6, 2) := by decide +kernel
theorem dX0_squareRoot_22 : decode cX0_squareRoot 22 = .ok (.lload 6, 2) := by decide +kernel
theorem dX0_squareRoot_24 : decode cX0_squareRoot 24 = .ok (.lmul, 1) := by decide +kernel
theorem dX0_squareRoot_25 : decode cX0_squareRoot 25 = .ok (.lload_n 0, 1) := by decide +kernel
theorem dX0_squareRoot_26 : decode cX0_squareRoot 26 = .ok (.lcmp, 1) := by decide +kernel
theorem dX0_squareRoot_27 : decode cX0_squareRoot 27 = .ok (.ifCond .gt 6, 3) := by decide +kernel
theorem dX0_squareRoot_30 : decode cX0_squareRoot 30 = .ok (.lload 6, 2) := by decide +kernel
theorem dX0_squareRoot_32 : decode cX0_squareRoot 32 = .ok (.lstore_n 2, 1) := by decide +kernel
theorem dX0_squareRoot_33 : decode cX0_squareRoot 33 = .ok (.lload 4, 2) := by decide +kernel
theorem dX0_squareRoot_35 : decode cX0_squareRoot 35 = .ok (.iconst 1, 1) := by decide +kernel
theorem dX0_squareRoot_36 : decode cX0_squareRoot 36 = .ok (.lshr, 1) := by decide +kernel
theorem dX0_squareRoot_37 : decode cX0_squareRoot 37 = .ok (.lstore 4, 2) := by decide +kernel
theorem dX0_squareRoot_39 : decode cX0_squareRoot 39 = .ok (.goto (-32), 3) := by decide +kernel
theorem dX0_squareRoot_42 : decode cX0_squareRoot 42 = .ok (.lload_n 2, 1) := by decide +kernel
theorem dX0_squareRoot_43 : decode cX0_squareRoot 43 = .ok (.lreturn, 1) := by decide +kernel
theorem dX1_init_0 : decode cX1_init 0 = .ok (.aload_n 0, 1) := by decide +kernel
theorem dX1_init_1 : decode cX1_init 1 = .ok (.invokespecial 3, 3) := by decide +kernel
theorem dX1_init_4 : decode cX1_init 4 = .ok (.aload_n 0, 1) := by decide +kernel
theorem dX1_init_5 : decode cX1_init 5 = .ok (.bipush 80, 2) := by decide +kernel
theorem dX1_init_7 : decode cX1_init 7 = .ok (.newarray .int, 2) := by decide +kernel
theorem dX1_init_9 : decode cX1_init 9 = .ok (.putfield 9, 3) := by decide +kernel
theorem dX1_init_12 : decode cX1_init 12 = .ok (.aload_n 0, 1) := by decide +kernel
theorem dX1_init_13 : decode cX1_init 13 = .ok (.iconst 0, 1) := by decide +kernel
theorem dX1_init_14 : decode cX1_init 14 = .ok (.putfield 15, 3) := by decide +kernel
theorem dX1_init_17 : decode cX1_init 17 = .ok (.aload_n 0, 1) := by decide +kernel
theorem dX1_init_18 : decode cX1_init 18 = .ok (.iconst 0, 1) := by decide +kernel
theorem dX1_init_19 : decode cX1_init 19 = .ok (.putfield 19, 3) := by decide +kernel
theorem dX1_init_22 : decode cX1_init 22 = .ok (.return_, 1) := by decide +kernel
set_option maxRecDepth 20000 in
theorem ggX1_remember_X3_copyInto : GoodIn wsX1_remember wsX3_copyInto := goodIn_r _ [8, 9, 10, 11, 12, 13, 14, 15, 19, 20, 21, 22, 23] (by decide +kernel) (by decide +kernel)
set_option maxRecDepth 20000 in
theorem gX1_remember_X3_copyInto : GoodIn wsX1_remember (wsV RX1 22 RX3 yX3_copyInto wsX3_copyInto) := goodIn_app (goodIn_of _ (by decide +kernel)) ggX1_remember_X3_copyInto
theorem dX1_remember_0 : decode cX1_remember 0 = .ok (.aload_n 1, 1) := by decide +kernel
theorem dX1_remember_1 : decode cX1_remember 1 = .ok (.aload_n 0, 1) := by decide +kernel
theorem dX1_remember_2 : decode cX1_remember 2 = .ok (.getfield 9, 3) := by decide +kernel
theorem dX1_remember_5 : decode cX1_remember 5 = .ok (.aload_n 0, 1) := by decide +kernel
theorem dX1_remember_6 : decode cX1_remember 6 = .ok (.getfield 15, 3) := by decide +kernel
theorem dX1_remember_9 : decode cX1_remember 9 = .ok (.aload_n 0, 1) := by decide +kernel
theorem dX1_remember_10 : decode cX1_remember 10 = .ok (.getfield 19, 3) := by decide +kernel
theorem dX1_remember_13 : decode cX1_remember 13 = .ok (.iadd, 1) := by decide +kernel
theorem dX1_remember_14 : decode cX1_remember 14 = .ok (.bipush 8, 2) := by decide +kernel
theorem dX1_remember_16 : decode cX1_remember 16 = .ok (.irem, 1) := by decide +kernel
theorem dX1_remember_17 : decode cX1_remember 17 = .ok (.bipush 10, 2) := by decide +kernel
theorem dX1_remember_19 : decode cX1_remember 19 = .ok (.imul, 1) := by decide +kernel
theorem dX1_remember_20 : decode cX1_remember 20 = .ok (.invokevirtual 22, 3) := by decide +kernel
theorem dX1_remember_23 : decode cX1_remember 23 = .ok (.aload_n 0, 1) := by decide +kernel
theorem dX1_remember_24 : decode cX1_remember 24 = .ok (.getfield 19, 3) := by decide +kernel
theorem dX1_remember_27 : decode cX1_remember 27 = .ok (.bipush 8, 2) := by decide +kernel
theorem dX1_remember_29 : decode cX1_remember 29 = .ok (.if_icmp .ge 16, 3) := by decide +kernel
theorem dX1_remember_32 : decode cX1_remember 32 = .ok (.aload_n 0, 1) := by decide +kernel
theorem dX1_remember_33 : decode cX1_remember 33 = .ok (.dup, 1) := by decide +kernel
theorem dX1_remember_34 : decode cX1_remember 34 = .ok (.getfield 19, 3) := by decide +kernel
theorem dX1_remember_37 : decode cX1_remember 37 = .ok (.iconst 1, 1) := by decide +kernel
theorem dX1_remember_38 : decode cX1_remember 38 = .ok (.iadd, 1) := by decide +kernel
theorem dX1_remember_39 : decode cX1_remember 39 = .ok (.putfield 19, 3) := by decide +kernel
theorem dX1_remember_42 : decode cX1_remember 42 = .ok (.goto 16, 3) := by decide +kernel
theorem dX1_remember_45 : decode cX1_remember 45 = .ok (.aload_n 0, 1) := by decide +kernel
theorem dX1_remember_46 : decode cX1_remember 46 = .ok (.aload_n 0, 1) := by decide +kernel
theorem dX1_remember_47 : decode cX1_remember 47 = .ok (.getfield 15, 3) := by decide +kernel
theorem dX1_remember_50 : decode cX1_remember 50 = .ok (.iconst 1, 1) := by decide +kernel
theorem dX1_remember_51 : decode cX1_remember 51 = .ok (.iadd, 1) := by decide +kernel
theorem dX1_remember_52 : decode cX1_remember 52 = .ok (.bipush 8, 2) := by decide +kernel
theorem dX1_remember_54 : decode cX1_remember 54 = .ok (.irem, 1) := by decide +kernel
theorem dX1_remember_55 : decode cX1_remember 55 = .ok (.putfield 15, 3) := by decide +kernel
theorem dX1_remember_58 : decode cX1_remember 58 = .ok (.return_, 1) := by decide +kernel
set_option maxRecDepth 20000 in
theorem ggX1_takeBack_X3_copyFrom : GoodIn wsX1_takeBack wsX3_copyFrom := goodIn_r _ [8, 9, 10, 11, 12, 13, 14, 15, 16, 17, 18, 19, 20, 21, 22, 26, 27, 28, 29, 30] (by decide +kernel) (by decide +kernel)
set_option maxRecDepth 20000 in
theorem gX1_takeBack_X3_copyFrom : GoodIn wsX1_takeBack (wsV RX1 28 RX3 yX3_copyFrom wsX3_copyFrom) := goodIn_app (goodIn_of _ (by decide +kernel)) ggX1_takeBack_X3_copyFrom
theorem dX1_takeBack_0 : decode cX1_takeBack 0 = .ok (.aload_n 0, 1) := by decide +kernel
theorem dX1_takeBack_1 : decode cX1_takeBack 1 = .ok (.getfield 19, 3) := by decide +kernel
theorem dX1_takeBack_4 : decode cX1_takeBack 4 = .ok (.ifCond .ne 4, 3) := by decide +kernel
theorem dX1_takeBack_7 : decode cX1_takeBack 7 = .ok (.return_, 1) := by decide +kernel
theorem dX1_takeBack_8 : decode cX1_takeBack 8 = .ok (.aload_n 0, 1) := by decide +kernel
theorem dX1_takeBack_9 : decode cX1_takeBack 9 = .ok (.dup, 1) := by decide +kernel
theorem dX1_takeBack_10 : decode cX1_takeBack 10 = .ok (.getfield 19, 3) := by decide +kernel
theorem dX1_takeBack_13 : decode cX1_takeBack 13 = .ok (.iconst 1, 1) := by decide +kernel
theorem dX1_takeBack_14 : decode cX1_takeBack 14 = .ok (.isub, 1) := by decide +kernel
theorem dX1_takeBack_15 : decode cX1_takeBack 15 = .ok (.putfield 19, 3) := by decide +kernel
theorem dX1_takeBack_18 : decode cX1_takeBack 18 = .ok (.aload_n 1, 1) := by decide +kernel
theorem dX1_takeBack_19 : decode cX1_takeBack 19 = .ok (.aload_n 0, 1) := by decide +kernel
theorem dX1_takeBack_20 : decode cX1_takeBack 20 = .ok (.getfield 9, 3) := by decide +kernel
theorem dX1_takeBack_23 : decode cX1_takeBack 23 = .ok (.aload_n 0, 1) := by decide +kernel
theorem dX1_takeBack_24 : decode cX1_takeBack 24 = .ok (.getfield 15, 3) := by decide +kernel
theorem dX1_takeBack_27 : decode cX1_takeBack 27 = .ok (.aload_n 0, 1) := by decide +kernel
theorem dX1_takeBack_28 : decode cX1_takeBack 28 = .ok (.getfield 19, 3) := by decide +kernel
theorem dX1_takeBack_31 : decode cX1_takeBack 31 = .ok (.iadd, 1) := by decide +kernel
theorem dX1_takeBack_32 : decode cX1_takeBack 32 = .ok (.bipush 8, 2) := by decide +kernel
theorem dX1_takeBack_34 : decode cX1_takeBack 34 = .ok (.irem, 1) := by decide +kernel
theorem dX1_takeBack_35 : decode cX1_takeBack 35 = .ok (.bipush 10, 2) := by decide +kernel
theorem dX1_takeBack_37 : decode cX1_takeBack 37 = .ok (.imul, 1) := by decide +kernel
theorem dX1_takeBack_38 : decode cX1_takeBack 38 = .ok (.invokevirtual 28, 3) := by decide +kernel
theorem dX1_takeBack_41 : decode cX1_takeBack 41 = .ok (.return_, 1) := by decide +kernel
theorem dX1_forget_0 : decode cX1_forget 0 = .ok (.aload_n 0, 1) := by decide +kernel
theorem dX1_forget_1 : decode cX1_forget 1 = .ok (.iconst 0, 1) := by decide +kernel
theorem dX1_forget_2 : decode cX1_forget 2 = .ok (.putfield 19, 3) := by decide +kernel
theorem dX1_forget_5 : decode cX1_forget 5 = .ok (.return_, 1) := by decide +kernel
theorem dX2_init_0 : decode cX2_init 0 = .ok (.aload_n 0, 1) := by decide +kernel
theorem dX2_init_1 : decode cX2_init 1 = .ok (.invokespecial 3, 3) := by decide +kernel
theorem dX2_init_4 : decode cX2_init 4 = .ok (.aload_n 0, 1) := by decide +kernel
theorem dX2_init_5 : decode cX2_init 5 = .ok (.bipush 20, 2) := by decide +kernel
theorem dX2_init_7 : decode cX2_init 7 = .ok (.newarray .int, 2) := by decide +kernel
theorem dX2_init_9 : decode cX2_init 9 = .ok (.putfield 9, 3) := by decide +kernel
theorem dX2_init_12 : decode cX2_init 12 = .ok (.aload_n 0, 1) := by decide +kernel
theorem dX2_init_13 : decode cX2_init 13 = .ok (.iconst 2, 1) := by decide +kernel
theorem dX2_init_14 : decode cX2_init 14 = .ok (.newarray .boolean, 2) := by decide +kernel
theorem dX2_init_16 : decode cX2_init 16 = .ok (.putfield 15, 3) := by decide +kernel
theorem dX2_init_19 : decode cX2_init 19 = .ok (.return_, 1) := by decide +kernel
set_option maxRecDepth 20000 in
theorem ggX2_take_X3_copyInto : GoodIn wsX2_take wsX3_copyInto := goodIn_r _ [7, 8, 9, 10, 11, 12, 13, 14, 17, 18, 19, 20, 21] (by decide +kernel) (by decide +kernel)
set_option maxRecDepth 20000 in
theorem gX2_take_X3_copyInto : GoodIn wsX2_take (wsV RX2 19 RX3 yX3_copyInto wsX3_copyInto) := goodIn_app (goodIn_of _ (by decide +kernel)) ggX2_take_X3_copyInto
theorem dX2_take_0 : decode cX2_take 0 = .ok (.aload_n 2, 1) := by decide +kernel
theorem dX2_take_1 : decode cX2_take 1 = .ok (.aload_n 0, 1) := by decide +kernel
theorem dX2_take_2 : decode cX2_take 2 = .ok (.getfield 9, 3) := by decide +kernel
theorem dX2_take_5 : decode cX2_take 5 = .ok (.iload_n 1, 1) := by decide +kernel
theorem dX2_take_6 : decode cX2_take 6 = .ok (.bipush 10, 2) := by decide +kernel
theorem dX2_take_8 : decode cX2_take 8 = .ok (.imul, 1) := by decide +kernel
theorem dX2_take_9 : decode cX2_take 9 = .ok (.invokevirtual 19, 3) := by decide +kernel
theorem dX2_take_12 : decode cX2_take 12 = .ok (.aload_n 0, 1) := by decide +kernel
theorem dX2_take_13 : decode cX2_take 13 = .ok (.getfield 15, 3) := by decide +kernel
theorem dX2_take_16 : decode cX2_take 16 = .ok (.iload_n 1, 1) := by decide +kernel
theorem dX2_take_17 : decode cX2_take 17 = .ok (.iconst 1, 1) := by decide +kernel
theorem dX2_take_18 : decode cX2_take 18 = .ok (.bastore, 1) := by decide +kernel
theorem dX2_take_19 : decode cX2_take 19 = .ok (.return_, 1) := by decide +kernel
set_option maxRecDepth 20000 in
theorem ggX2_give_X3_copyFrom : GoodIn wsX2_give wsX3_copyFrom := goodIn_r _ [6, 7, 8, 9, 10, 11, 12, 13, 14, 15, 16, 17, 18, 19, 20, 23, 24, 25, 26, 27] (by decide +kernel) (by decide +kernel)
set_option maxRecDepth 20000 in
theorem gX2_give_X3_copyFrom : GoodIn wsX2_give (wsV RX2 25 RX3 yX3_copyFrom wsX3_copyFrom) := goodIn_app (goodIn_of _ (by decide +kernel)) ggX2_give_X3_copyFrom
theorem dX2_give_0 : decode cX2_give 0 = .ok (.aload_n 2, 1) := by decide +kernel
theorem dX2_give_1 : decode cX2_give 1 = .ok (.aload_n 0, 1) := by decide +kernel
theorem dX2_give_2 : decode cX2_give 2 = .ok (.getfield 9, 3) := by decide +kernel
theorem dX2_give_5 : decode cX2_give 5 = .ok (.iload_n 1, 1) := by decide +kernel
theorem dX2_give_6 : decode cX2_give 6 = .ok (.bipush 10, 2) := by decide +kernel
theorem dX2_give_8 : decode cX2_give 8 = .ok (.imul, 1) := by decide +kernel
theorem dX2_give_9 : decode cX2_give 9 = .ok (.invokevirtual 25, 3) := by decide +kernel
theorem dX2_give_12 : decode cX2_give 12 = .ok (.return_, 1) := by decide +kernel
set_option maxRecDepth 20000 in
theorem ggX3_init_X0_init : GoodIn wsX3_init wsX0_init := goodIn_r _ [12, 13, 2, 3, 14, 15, 16, 17] (by decide +kernel) (by decide +kernel)
set_option maxRecDepth 20000 in
theorem gX3_init_X0_init_n11 : GoodIn wsX3_init (wsX0_init) := ggX3_init_X0_init
theorem dX3_init_0 : decode cX3_init 0 = .ok (.aload_n 0, 1) := by decide +kernel
theorem dX3_init_1 : decode cX3_init 1 = .ok (.invokespecial 3, 3) := by decide +kernel
theorem dX3_init_4 : decode cX3_init 4 = .ok (.aload_n 0, 1) := by decide +kernel
theorem dX3_init_5 : decode cX3_init 5 = .ok (.new 9, 3) := by decide +kernel
theorem dX3_init_8 : decode cX3_init 8 = .ok (.dup, 1) := by decide +kernel
theorem dX3_init_9 : decode cX3_init 9 = .ok (.invokespecial 11, 3) := by decide +kernel
theorem dX3_init_12 : decode cX3_init 12 = .ok (.putfield 12, 3) := by decide +kernel
theorem dX3_init_15 : decode cX3_init 15 = .ok (.aload_n 0, 1) := by decide +kernel
theorem dX3_init_16 : decode cX3_init 16 = .ok (.iconst 4, 1) := by decide +kernel
theorem dX3_init_17 : decode cX3_init 17 = .ok (.newarray .int, 2) := by decide +kernel
theorem dX3_init_19 : decode cX3_init 19 = .ok (.putfield 18, 3) := by decide +kernel
theorem dX3_init_22 : decode cX3_init 22 = .ok (.aload_n 0, 1) := by decide +kernel
theorem dX3_init_23 : decode cX3_init 23 = .ok (.iconst 4, 1) := by decide +kernel
theorem dX3_init_24 : decode cX3_init 24 = .ok (.newarray .int, 2) := by decide +kernel
theorem dX3_init_26 : decode cX3_init 26 = .ok (.putfield 22, 3) := by decide +kernel
theorem dX3_init_29 : decode cX3_init 29 = .ok (.return_, 1) := by decide +kernel
theorem dX3_copyInto_0 : decode cX3_copyInto 0 = .ok (.iload_n 2, 1) := by decide +kernel
theorem dX3_copyInto_1 : decode cX3_copyInto 1 = .ok (.ifCond .lt 12, 3) := by decide +kernel
theorem dX3_copyInto_4 : decode cX3_copyInto 4 = .ok (.iload_n 2, 1) := by decide +kernel
theorem dX3_copyInto_5 : decode cX3_copyInto 5 = .ok (.aload_n 1, 1) := by decide +kernel
theorem dX3_copyInto_6 : decode cX3_copyInto 6 = .ok (.arraylength, 1) := by decide +kernel
theorem dX3_copyInto_7 : decode cX3_copyInto 7 = .ok (.bipush 10, 2) := by decide +kernel
theorem dX3_copyInto_9 : decode cX3_copyInto 9 = .ok (.isub, 1) := by decide +kernel
theorem dX3_copyInto_10 : decode cX3_copyInto 10 = .ok (.if_icmp .le 4, 3) := by decide +kernel
theorem dX3_copyInto_13 : decode cX3_copyInto 13 = .ok (.return_, 1) := by decide +kernel
theorem dX3_copyInto_14 : decode cX3_copyInto 14 = .ok (.aload_n 1, 1) := by decide +kernel
theorem dX3_copyInto_15 : decode cX3_copyInto 15 = .ok (.iload_n 2, 1) := by decide +kernel
theorem dX3_copyInto_16 : decode cX3_copyInto 16 = .ok (.aload_n 0, 1) := by decide +kernel
theorem dX3_copyInto_17 : decode cX3_copyInto 17 = .ok (.getfield 12, 3) := by decide +kernel
theorem dX3_copyInto_20 : decode cX3_copyInto 20 = .ok (.getfield 25, 3) := by decide +kernel
theorem dX3_copyInto_23 : decode cX3_copyInto 23 = .ok (.iastore, 1) := by decide +kernel
theorem dX3_copyInto_24 : decode cX3_copyInto 24 = .ok (.aload_n 1, 1) := by decide +kernel
theorem dX3_copyInto_25 : decode cX3_copyInto 25 = .ok (.iload_n 2, 1) := by decide +kernel
theorem dX3_copyInto_26 : decode cX3_copyInto 26 = .ok (.iconst 1, 1) := by decide +kernel
theorem dX3_copyInto_27 : decode cX3_copyInto 27 = .ok (.iadd, 1) := by decide +kernel
theorem dX3_copyInto_28 : decode cX3_copyInto 28 = .ok (.aload_n 0, 1) := by decide +kernel
theorem dX3_copyInto_29 : decode cX3_copyInto 29 = .ok (.getfield 12, 3) := by decide +kernel
theorem dX3_copyInto_32 : decode cX3_copyInto 32 = .ok (.getfield 29, 3) := by decide +kernel
theorem dX3_copyInto_35 : decode cX3_copyInto 35 = .ok (.iastore, 1) := by decide +kernel
theorem dX3_copyInto_36 : decode cX3_copyInto 36 = .ok (.aload_n 0, 1) := by decide +kernel
theorem dX3_copyInto_37 : decode cX3_copyInto 37 = .ok (.getfield 18, 3) := by decide +kernel
theorem dX3_copyInto_40 : decode cX3_copyInto 40 = .ok (.iconst 0, 1) := by decide +kernel
theorem dX3_copyInto_41 : decode cX3_copyInto 41 = .ok (.aload_n 1, 1) := by decide +kernel
theorem dX3_copyInto_42 : decode cX3_copyInto 42 = .ok (.iload_n 2, 1) := by decide +kernel
theorem dX3_copyInto_43 : decode cX3_copyInto 43 = .ok (.iconst 2, 1) := by decide +kernel
theorem dX3_copyInto_44 : decode cX3_copyInto 44 = .ok (.iadd, 1) := by decide +kernel
theorem dX3_copyInto_45 : decode cX3_copyInto 45 = .ok (.iconst 4, 1) := by decide +kernel
theorem dX3_copyInto_46 : decode cX3_copyInto 46 = .ok (.invokestatic 32, 3) := by decide +kernel
theorem dX3_copyInto_49 : decode cX3_copyInto 49 = .ok (.aload_n 0, 1) := by decide +kernel
theorem dX3_copyInto_50 : decode cX3_copyInto 50 = .ok (.getfield 22, 3) := by decide +kernel
theorem dX3_copyInto_53 : decode cX3_copyInto 53 = .ok (.iconst 0, 1) := by decide +kernel
theorem dX3_copyInto_54 : decode cX3_copyInto 54 = .ok (.aload_n 1, 1) := by decide +kernel
theorem dX3_copyInto_55 : decode cX3_copyInto 55 = .ok (.iload_n 2, 1) := by decide +kernel
theorem dX3_copyInto_56 : decode cX3_copyInto 56 = .ok (.iconst 2, 1) := by decide +kernel
theorem dX3_copyInto_57 : decode cX3_copyInto 57 = .ok (.iadd, 1) := by decide +kernel
theorem dX3_copyInto_58 : decode cX3_copyInto 58 = .ok (.iconst 4, 1) := by decide +kernel
theorem dX3_copyInto_59 : decode cX3_copyInto 59 = .ok (.iadd, 1) := by decide +kernel
theorem dX3_copyInto_60 : decode cX3_copyInto 60 = .ok (.iconst 4, 1) := by decide +kernel
theorem dX3_copyInto_61 : decode cX3_copyInto 61 = .ok (.invokestatic 32, 3) := by decide +kernel
theorem dX3_copyInto_64 : decode cX3_copyInto 64 = .ok (.return_, 1) := by decide +kernel
set_option maxRecDepth 20000 in
theorem ggX3_copyFrom_X0_become : GoodIn wsX3_copyFrom wsX0_become := goodIn_r _ [12, 13, 14, 18, 19] (by decide +kernel) (by decide +kernel)
set_option maxRecDepth 20000 in
theorem gX3_copyFrom_X0_become : GoodIn wsX3_copyFrom (wsV RX3 38 RX0 yX0_become wsX0_become) := goodIn_app (goodIn_of _ (by decide +kernel)) ggX3_copyFrom_X0_become
theorem dX3_copyFrom_0 : decode cX3_copyFrom 0 = .ok (.iload_n 2, 1) := by decide +kernel
theorem dX3_copyFrom_1 : decode cX3_copyFrom 1 = .ok (.ifCond .lt 12, 3) := by decide +kernel
theorem dX3_copyFrom_4 : decode cX3_copyFrom 4 = .ok (.iload_n 2, 1) := by decide +kernel
theorem dX3_copyFrom_5 : decode cX3_copyFrom 5 = .ok (.aload_n 1, 1) := by decide +kernel
theorem dX3_copyFrom_6 : decode cX3_copyFrom 6 = .ok (.arraylength, 1) := by decide +kernel
theorem dX3_copyFrom_7 : decode cX3_copyFrom 7 = .ok (.bipush 10, 2) := by decide +kernel
theorem dX3_copyFrom_9 : decode cX3_copyFrom 9 = .ok (.isub, 1) := by decide +kernel
theorem dX3_copyFrom_10 : decode cX3_copyFrom 10 = .ok (.if_icmp .le 4, 3) := by decide +kernel
theorem dX3_copyFrom_13 : decode cX3_copyFrom 13 = .ok (.return_, 1) := by decide +kernel
theorem dX3_copyFrom_14 : decode cX3_copyFrom 14 = .ok (.aload_n 0, 1) := by decide +kernel
theorem dX3_copyFrom_15 : decode cX3_copyFrom 15 = .ok (.getfield 12, 3) := by decide +kernel
theorem dX3_copyFrom_18 : decode cX3_copyFrom 18 = .ok (.aload_n 1, 1) := by decide +kernel
theorem dX3_copyFrom_19 : decode cX3_copyFrom 19 = .ok (.iload_n 2, 1) := by decide +kernel
theorem dX3_copyFrom_20 : decode cX3_copyFrom 20 = .ok (.iaload, 1) := by decide +kernel
theorem dX3_copyFrom_21 : decode cX3_copyFrom 21 = .ok (.aload_n 1, 1) := by decide +kernel
theorem dX3_copyFrom_22 : decode cX3_copyFrom 22 = .ok (.iload_n 2, 1) := by decide +kernel
theorem dX3_copyFrom_23 : decode cX3_copyFrom 23 = .ok (.iconst 1, 1) := by decide +kernel
theorem dX3_copyFrom_24 : decode cX3_copyFrom 24 = .ok (.iadd, 1) := by decide +kernel
theorem dX3_copyFrom_25 : decode cX3_copyFrom 25 = .ok (.iaload, 1) := by decide +kernel
theorem dX3_copyFrom_26 : decode cX3_copyFrom 26 = .ok (.invokevirtual 38, 3) := by decide +kernel
theorem dX3_copyFrom_29 : decode cX3_copyFrom 29 = .ok (.aload_n 1, 1) := by decide +kernel
theorem dX3_copyFrom_30 : decode cX3_copyFrom 30 = .ok (.iload_n 2, 1) := by decide +kernel
theorem dX3_copyFrom_31 : decode cX3_copyFrom 31 = .ok (.iconst 2, 1) := by decide +kernel
theorem dX3_copyFrom_32 : decode cX3_copyFrom 32 = .ok (.iadd, 1) := by decide +kernel
theorem dX3_copyFrom_33 : decode cX3_copyFrom 33 = .ok (.aload_n 0, 1) := by decide +kernel
theorem dX3_copyFrom_34 : decode cX3_copyFrom 34 = .ok (.getfield 18, 3) := by decide +kernel
theorem dX3_copyFrom_37 : decode cX3_copyFrom 37 = .ok (.iconst 0, 1) := by decide +kernel
theorem dX3_copyFrom_38 : decode cX3_copyFrom 38 = .ok (.iconst 4, 1) := by decide +kernel
theorem dX3_copyFrom_39 : decode cX3_copyFrom 39 = .ok (.invokestatic 32, 3) := by decide +kernel
theorem dX3_copyFrom_42 : decode cX3_copyFrom 42 = .ok (.aload_n 1, 1) := by decide +kernel
theorem dX3_copyFrom_43 : decode cX3_copyFrom 43 = .ok (.iload_n 2, 1) := by decide +kernel
theorem dX3_copyFrom_44 : decode cX3_copyFrom 44 = .ok (.iconst 2, 1) := by decide +kernel
theorem dX3_copyFrom_45 : decode cX3_copyFrom 45 = .ok (.iadd, 1) := by decide +kernel
theorem dX3_copyFrom_46 : decode cX3_copyFrom 46 = .ok (.iconst 4, 1) := by decide +kernel
theorem dX3_copyFrom_47 : decode cX3_copyFrom 47 = .ok (.iadd, 1) := by decide +kernel
theorem dX3_copyFrom_48 : decode cX3_copyFrom 48 = .ok (.aload_n 0, 1) := by decide +kernel
theorem dX3_copyFrom_49 : decode cX3_copyFrom 49 = .ok (.getfield 22, 3) := by decide +kernel
theorem dX3_copyFrom_52 : decode cX3_copyFrom 52 = .ok (.iconst 0, 1) := by decide +kernel
theorem dX3_copyFrom_53 : decode cX3_copyFrom 53 = .ok (.iconst 4, 1) := by decide +kernel
theorem dX3_copyFrom_54 : decode cX3_copyFrom 54 = .ok (.invokestatic 32, 3) := by decide +kernel
theorem dX3_copyFrom_57 : decode cX3_copyFrom 57 = .ok (.return_, 1) := by decide +kernel
theorem dX4_init_0 : decode cX4_init 0 = .ok (.aload_n 0, 1) := by decide +kernel
theorem dX4_init_1 : decode cX4_init 1 = .ok (.invokespecial 3, 3) := by decide +kernel
theorem dX4_init_4 : decode cX4_init 4 = .ok (.aload_n 0, 1) := by decide +kernel
theorem dX4_init_5 : decode cX4_init 5 = .ok (.bipush 60, 2) := by decide +kernel
theorem dX4_init_7 : decode cX4_init 7 = .ok (.newarray .int, 2) := by decide +kernel
theorem dX4_init_9 : decode cX4_init 9 = .ok (.putfield 9, 3) := by decide +kernel
theorem dX4_init_12 : decode cX4_init 12 = .ok (.aload_n 0, 1) := by decide +kernel
theorem dX4_init_13 : decode cX4_init 13 = .ok (.bipush 60, 2) := by decide +kernel
theorem dX4_init_15 : decode cX4_init 15 = .ok (.newarray .int, 2) := by decide +kernel
theorem dX4_init_17 : decode cX4_init 17 = .ok (.putfield 15, 3) := by decide +kernel
theorem dX4_init_20 : decode cX4_init 20 = .ok (.aload_n 0, 1) := by decide +kernel
theorem dX4_init_21 : decode cX4_init 21 = .ok (.iconst 0, 1) := by decide +kernel
theorem dX4_init_22 : decode cX4_init 22 = .ok (.putfield 18, 3) := by decide +kernel
theorem dX4_init_25 : decode cX4_init 25 = .ok (.aload_n 0, 1) := by decide +kernel
theorem dX4_init_26 : decode cX4_init 26 = .ok (.iconst (-1), 1) := by decide +kernel
theorem dX4_init_27 : decode cX4_init 27 = .ok (.putfield 22, 3) := by decide +kernel
theorem dX4_init_30 : decode cX4_init 30 = .ok (.aload_n 0, 1) := by decide +kernel
theorem dX4_init_31 : decode cX4_init 31 = .ok (.iconst 0, 1) := by decide +kernel
theorem dX4_init_32 : decode cX4_init 32 = .ok (.putfield 25, 3) := by decide +kernel
theorem dX4_init_35 : decode cX4_init 35 = .ok (.aload_n 0, 1) := by decide +kernel
theorem dX4_init_36 : decode cX4_init 36 = .ok (.iconst 0, 1) := by decide +kernel
theorem dX4_init_37 : decode cX4_init 37 = .ok (.putfield 28, 3) := by decide +kernel
theorem dX4_init_40 : decode cX4_init 40 = .ok (.return_, 1) := by decide +kernel
theorem dX4_hasPoint_0 : decode cX4_hasPoint 0 = .ok (.aload_n 0, 1) := by decide +kernel
theorem dX4_hasPoint_1 : decode cX4_hasPoint 1 = .ok (.getfield 22, 3) := by decide +kernel
theorem dX4_hasPoint_4 : decode cX4_hasPoint 4 = .ok (.iconst (-1), 1) := by decide +kernel
theorem dX4_hasPoint_5 : decode cX4_hasPoint 5 = .ok (.if_icmp .eq 7, 3) := by decide +kernel
theorem dX4_hasPoint_8 : decode cX4_hasPoint 8 = .ok (.iconst 1, 1) := by decide +kernel
theorem dX4_hasPoint_9 : decode cX4_hasPoint 9 = .ok (.goto 4, 3) := by decide +kernel
theorem dX4_hasPoint_12 : decode cX4_hasPoint 12 = .ok (.iconst 0, 1) := by decide +kernel
theorem dX4_hasPoint_13 : decode cX4_hasPoint 13 = .ok (.ireturn, 1) := by decide +kernel
set_option maxRecDepth 20000 in
theorem ggX4_signs_X4_hasPoint : GoodIn wsX4_signs wsX4_hasPoint := goodIn_r _ [6, 7, 8, 9, 10, 11, 12, 13] (by decide +kernel) (by decide +kernel)
set_option maxRecDepth 20000 in
theorem gX4_signs_X4_hasPoint : GoodIn wsX4_signs (wsV RX4 31 RX4 yX4_hasPoint wsX4_hasPoint) := goodIn_app (goodIn_of _ (by decide +kernel)) ggX4_signs_X4_hasPoint
theorem dX4_signs_0 : decode cX4_signs 0 = .ok (.aload_n 0, 1) := by decide +kernel
theorem dX4_signs_1 : decode cX4_signs 1 = .ok (.invokevirtual 31, 3) := by decide +kernel
theorem dX4_signs_4 : decode cX4_signs 4 = .ok (.ifCond .eq 12, 3) := by decide +kernel
theorem dX4_signs_7 : decode cX4_signs 7 = .ok (.aload_n 0, 1) := by decide +kernel
theorem dX4_signs_8 : decode cX4_signs 8 = .ok (.getfield 18, 3) := by decide +kernel
theorem dX4_signs_11 : decode cX4_signs 11 = .ok (.iconst 1, 1) := by decide +kernel
theorem dX4_signs_12 : decode cX4_signs 12 = .ok (.iadd, 1) := by decide +kernel
theorem dX4_signs_13 : decode cX4_signs 13 = .ok (.goto 7, 3) := by decide +kernel
theorem dX4_signs_16 : decode cX4_signs 16 = .ok (.aload_n 0, 1) := by decide +kernel
theorem dX4_signs_17 : decode cX4_signs 17 = .ok (.getfield 18, 3) := by decide +kernel
theorem dX4_signs_20 : decode cX4_signs 20 = .ok (.ireturn, 1) := by decide +kernel
set_option maxRecDepth 20000 in
theorem ggX4_shift_X4_hasPoint : GoodIn wsX4_shift wsX4_hasPoint := goodIn_r _ [7, 2, 8, 9, 10, 11, 12, 13] (by decide +kernel) (by decide +kernel)
set_option maxRecDepth 20000 in
theorem gX4_shift_X4_hasPoint : GoodIn wsX4_shift (wsV RX4 31 RX4 yX4_hasPoint wsX4_hasPoint) := goodIn_app (goodIn_of _ (by decide +kernel)) ggX4_shift_X4_hasPoint
theorem dX4_shift_0 : decode cX4_shift 0 = .ok (.aload_n 0, 1) := by decide +kernel
theorem dX4_shift_1 : decode cX4_shift 1 = .ok (.invokevirtual 31, 3) := by decide +kernel
theorem dX4_shift_4 : decode cX4_shift 4 = .ok (.ifCond .eq 15, 3) := by decide +kernel
theorem dX4_shift_7 : decode cX4_shift 7 = .ok (.aload_n 0, 1) := by decide +kernel
theorem dX4_shift_8 : decode cX4_shift 8 = .ok (.getfield 18, 3) := by decide +kernel
theorem dX4_shift_11 : decode cX4_shift 11 = .ok (.aload_n 0, 1) := by decide +kernel
theorem dX4_shift_12 : decode cX4_shift 12 = .ok (.getfield 22, 3) := by decide +kernel
theorem dX4_shift_15 : decode cX4_shift 15 = .ok (.isub, 1) := by decide +kernel
theorem dX4_shift_16 : decode cX4_shift 16 = .ok (.goto 4, 3) := by decide +kernel
theorem dX4_shift_19 : decode cX4_shift 19 = .ok (.iconst 0, 1) := by decide +kernel
theorem dX4_shift_20 : decode cX4_shift 20 = .ok (.ireturn, 1) := by decide +kernel
theorem dX4_addPoint_0 : decode cX4_addPoint 0 = .ok (.aload_n 0, 1) := by decide +kernel
theorem dX4_addPoint_1 : decode cX4_addPoint 1 = .ok (.aload_n 0, 1) := by decide +kernel
theorem dX4_addPoint_2 : decode cX4_addPoint 2 = .ok (.getfield 18, 3) := by decide +kernel
theorem dX4_addPoint_5 : decode cX4_addPoint 5 = .ok (.putfield 22, 3) := by decide +kernel
theorem dX4_addPoint_8 : decode cX4_addPoint 8 = .ok (.return_, 1) := by decide +kernel
theorem dX4_addFigure_0 : decode cX4_addFigure 0 = .ok (.aload_n 0, 1) := by decide +kernel
theorem dX4_addFigure_1 : decode cX4_addFigure 1 = .ok (.getfield 18, 3) := by decide +kernel
theorem dX4_addFigure_4 : decode cX4_addFigure 4 = .ok (.aload_n 0, 1) := by decide +kernel
theorem dX4_addFigure_5 : decode cX4_addFigure 5 = .ok (.getfield 9, 3) := by decide +kernel
theorem dX4_addFigure_8 : decode cX4_addFigure 8 = .ok (.arraylength, 1) := by decide +kernel
theorem dX4_addFigure_9 : decode cX4_addFigure 9 = .ok (.if_icmp .ge 23, 3) := by decide +kernel
theorem dX4_addFigure_12 : decode cX4_addFigure 12 = .ok (.aload_n 0, 1) := by decide +kernel
theorem dX4_addFigure_13 : decode cX4_addFigure 13 = .ok (.getfield 9, 3) := by decide +kernel
theorem dX4_addFigure_16 : decode cX4_addFigure 16 = .ok (.aload_n 0, 1) := by decide +kernel
theorem dX4_addFigure_17 : decode cX4_addFigure 17 = .ok (.getfield 18, 3) := by decide +kernel
theorem dX4_addFigure_20 : decode cX4_addFigure 20 = .ok (.iload_n 1, 1) := by decide +kernel
theorem dX4_addFigure_21 : decode cX4_addFigure 21 = .ok (.iastore, 1) := by decide +kernel
theorem dX4_addFigure_22 : decode cX4_addFigure 22 = .ok (.aload_n 0, 1) := by decide +kernel
theorem dX4_addFigure_23 : decode cX4_addFigure 23 = .ok (.dup, 1) := by decide +kernel
theorem dX4_addFigure_24 : decode cX4_addFigure 24 = .ok (.getfield 18, 3) := by decide +kernel
theorem dX4_addFigure_27 : decode cX4_addFigure 27 = .ok (.iconst 1, 1) := by decide +kernel
theorem dX4_addFigure_28 : decode cX4_addFigure 28 = .ok (.iadd, 1) := by decide +kernel
theorem dX4_addFigure_29 : decode cX4_addFigure 29 = .ok (.putfield 18, 3) := by decide +kernel
theorem dX4_addFigure_32 : decode cX4_addFigure 32 = .ok (.return_, 1) := by decide +kernel
theorem dX4_empty_0 : decode cX4_empty 0 = .ok (.aload_n 0, 1) := by decide +kernel
theorem dX4_empty_1 : decode cX4_empty 1 = .ok (.iconst 0, 1) := by decide +kernel
theorem dX4_empty_2 : decode cX4_empty 2 = .ok (.putfield 18, 3) := by decide +kernel
theorem dX4_empty_5 : decode cX4_empty 5 = .ok (.aload_n 0, 1) := by decide +kernel
theorem dX4_empty_6 : decode cX4_empty 6 = .ok (.iconst (-1), 1) := by decide +kernel
theorem dX4_empty_7 : decode cX4_empty 7 = .ok (.putfield 22, 3) := by decide +kernel
theorem dX4_empty_10 : decode cX4_empty 10 = .ok (.return_, 1) := by decide +kernel
set_option maxRecDepth 20000 in
theorem ggX4_copyFrom_X4_empty : GoodIn wsX4_copyFrom wsX4_empty := goodIn_r _ [6, 7, 1, 36, 37, 38, 39, 40, 41] (by decide +kernel) (by decide +kernel)
set_option maxRecDepth 20000 in
theorem gX4_copyFrom_X4_empty : GoodIn wsX4_copyFrom (wsV RX4 35 RX4 yX4_empty wsX4_empty) := goodIn_app (goodIn_of _ (by decide +kernel)) ggX4_copyFrom_X4_empty
set_option maxRecDepth 20000 in
theorem ggX4_copyFrom_X5_figureCount : GoodIn wsX4_copyFrom wsX5_figureCount := goodIn_r _ [12, 13, 14, 20, 21, 22, 23, 24, 25, 26, 27, 28, 29, 30, 31, 32, 33, 34, 35] (by decide +kernel) (by decide +kernel)
set_option maxRecDepth 20000 in
theorem gX4_copyFrom_X5_figureCount : GoodIn wsX4_copyFrom (wsV RX4 38 RX5 yX5_figureCount wsX5_figureCount) := goodIn_app (goodIn_of _ (by decide +kernel)) ggX4_copyFrom_X5_figureCount
set_option maxRecDepth 20000 in
theorem ggX4_copyFrom_X4_addFigure : GoodIn wsX4_copyFrom wsX4_addFigure := goodIn_r _ [18, 7, 19, 36, 37, 38, 39, 40, 41] (by decide +kernel) (by decide +kernel)
set_option maxRecDepth 20000 in
theorem gX4_copyFrom_X4_addFigure : GoodIn wsX4_copyFrom (wsV RX4 45 RX4 yX4_addFigure wsX4_addFigure) := goodIn_app (goodIn_of _ (by decide +kernel)) ggX4_copyFrom_X4_addFigure
theorem dX4_copyFrom_0 : decode cX4_copyFrom 0 = .ok (.aload_n 0, 1) := by decide +kernel
theorem dX4_copyFrom_1 : decode cX4_copyFrom 1 = .ok (.invokevirtual 35, 3) := by decide +kernel
theorem dX4_copyFrom_4 : decode cX4_copyFrom 4 = .ok (.iconst 0, 1) := by decide +kernel
theorem dX4_copyFrom_5 : decode cX4_copyFrom 5 = .ok (.istore_n 2, 1) := by decide +kernel
theorem dX4_copyFrom_6 : decode cX4_copyFrom 6 = .ok (.iload_n 2, 1) := by decide +kernel
theorem dX4_copyFrom_7 : decode cX4_copyFrom 7 = .ok (.aload_n 1, 1) := by decide +kernel
theorem dX4_copyFrom_8 : decode cX4_copyFrom 8 = .ok (.invokevirtual 38, 3) := by decide +kernel
theorem dX4_copyFrom_11 : decode cX4_copyFrom 11 = .ok (.if_icmp .ge 19, 3) := by decide +kernel
theorem dX4_copyFrom_14 : decode cX4_copyFrom 14 = .ok (.aload_n 0, 1) := by decide +kernel
theorem dX4_copyFrom_15 : decode cX4_copyFrom 15 = .ok (.aload_n 1, 1) := by decide +kernel
theorem dX4_copyFrom_16 : decode cX4_copyFrom 16 = .ok (.getfield 44, 3) := by decide +kernel
theorem dX4_copyFrom_19 : decode cX4_copyFrom 19 = .ok (.iload_n 2, 1) := by decide +kernel
theorem dX4_copyFrom_20 : decode cX4_copyFrom 20 = .ok (.iaload, 1) := by decide +kernel
theorem dX4_copyFrom_21 : decode cX4_copyFrom 21 = .ok (.invokevirtual 45, 3) := by decide +kernel
theorem dX4_copyFrom_24 : decode cX4_copyFrom 24 = .ok (.iinc 2 1, 3) := by decide +kernel
theorem dX4_copyFrom_27 : decode cX4_copyFrom 27 = .ok (.goto (-21), 3) := by decide +kernel
theorem dX4_copyFrom_30 : decode cX4_copyFrom 30 = .ok (.aload_n 1, 1) := by decide +kernel
theorem dX4_copyFrom_31 : decode cX4_copyFrom 31 = .ok (.getfield 49, 3) := by decide +kernel
theorem dX4_copyFrom_34 : decode cX4_copyFrom 34 = .ok (.ifCond .le 11, 3) := by decide +kernel
theorem dX4_copyFrom_37 : decode cX4_copyFrom 37 = .ok (.aload_n 0, 1) := by decide +kernel
theorem dX4_copyFrom_38 : decode cX4_copyFrom 38 = .ok (.aload_n 1, 1) := by decide +kernel
theorem dX4_copyFrom_39 : decode cX4_copyFrom 39 = .ok (.getfield 52, 3) := by decide +kernel
theorem dX4_copyFrom_42 : decode cX4_copyFrom 42 = .ok (.putfield 22, 3) := by decide +kernel
theorem dX4_copyFrom_45 : decode cX4_copyFrom 45 = .ok (.return_, 1) := by decide +kernel
set_option maxRecDepth 20000 in
theorem ggX4_reckon_X0_raisedN : GoodIn wsX4_reckon wsX0_raisedN := goodIn_r _ [9, 10, 27, 28] (by decide +kernel) (by decide +kernel)
set_option maxRecDepth 20000 in
theorem gX4_reckon_X0_raisedN : GoodIn wsX4_reckon (wsV RX4 55 RX0 yX0_raisedN wsX0_raisedN) := goodIn_app (goodIn_of _ (by decide +kernel)) ggX4_reckon_X0_raisedN
set_option maxRecDepth 20000 in
theorem ggX4_reckon_X0_raisedM : GoodIn wsX4_reckon wsX0_raisedM := goodIn_r _ [14, 15, 27, 28] (by decide +kernel) (by decide +kernel)
set_option maxRecDepth 20000 in
theorem gX4_reckon_X0_raisedM : GoodIn wsX4_reckon (wsV RX4 61 RX0 yX0_raisedM wsX0_raisedM) := goodIn_app (goodIn_of _ (by decide +kernel)) ggX4_reckon_X0_raisedM
set_option maxRecDepth 20000 in
theorem ggX4_reckon_X6_isOutOfBounds : GoodIn wsX4_reckon wsX6_isOutOfBounds := goodIn_r _ [18, 19, 20] (by decide +kernel) (by decide +kernel)
set_option maxRecDepth 20000 in
theorem gX4_reckon_X6_isOutOfBounds_n65 : GoodIn wsX4_reckon (wsX6_isOutOfBounds) := ggX4_reckon_X6_isOutOfBounds
theorem dX4_reckon_0 : decode cX4_reckon 0 = .ok (.lconst 0, 1) := by decide +kernel
theorem dX4_reckon_1 : decode cX4_reckon 1 = .ok (.lstore_n 2, 1) := by decide +kernel
theorem dX4_reckon_2 : decode cX4_reckon 2 = .ok (.lconst 0, 1) := by decide +kernel
theorem dX4_reckon_3 : decode cX4_reckon 3 = .ok (.lstore 4, 2) := by decide +kernel
theorem dX4_reckon_5 : decode cX4_reckon 5 = .ok (.iconst 0, 1) := by decide +kernel
theorem dX4_reckon_6 : decode cX4_reckon 6 = .ok (.istore 6, 2) := by decide +kernel
theorem dX4_reckon_8 : decode cX4_reckon 8 = .ok (.iload 6, 2) := by decide +kernel
theorem dX4_reckon_10 : decode cX4_reckon 10 = .ok (.aload_n 0, 1) := by decide +kernel
theorem dX4_reckon_11 : decode cX4_reckon 11 = .ok (.getfield 18, 3) := by decide +kernel
theorem dX4_reckon_14 : decode cX4_reckon 14 = .ok (.if_icmp .ge 55, 3) := by decide +kernel
theorem dX4_reckon_17 : decode cX4_reckon 17 = .ok (.aload_n 1, 1) := by decide +kernel
theorem dX4_reckon_18 : decode cX4_reckon 18 = .ok (.lload_n 2, 1) := by decide +kernel
theorem dX4_reckon_19 : decode cX4_reckon 19 = .ok (.lload 4, 2) := by decide +kernel
theorem dX4_reckon_21 : decode cX4_reckon 21 = .ok (.invokevirtual 55, 3) := by decide +kernel
theorem dX4_reckon_24 : decode cX4_reckon 24 = .ok (.lstore 7, 2) := by decide +kernel
theorem dX4_reckon_26 : decode cX4_reckon 26 = .ok (.aload_n 1, 1) := by decide +kernel
theorem dX4_reckon_27 : decode cX4_reckon 27 = .ok (.lload 4, 2) := by decide +kernel
theorem dX4_reckon_29 : decode cX4_reckon 29 = .ok (.invokevirtual 61, 3) := by decide +kernel
theorem dX4_reckon_32 : decode cX4_reckon 32 = .ok (.aload_n 0, 1) := by decide +kernel
theorem dX4_reckon_33 : decode cX4_reckon 33 = .ok (.getfield 9, 3) := by decide +kernel
theorem dX4_reckon_36 : decode cX4_reckon 36 = .ok (.iload 6, 2) := by decide +kernel
theorem dX4_reckon_38 : decode cX4_reckon 38 = .ok (.iaload, 1) := by decide +kernel
theorem dX4_reckon_39 : decode cX4_reckon 39 = .ok (.i2l, 1) := by decide +kernel
theorem dX4_reckon_40 : decode cX4_reckon 40 = .ok (.ladd, 1) := by decide +kernel
theorem dX4_reckon_41 : decode cX4_reckon 41 = .ok (.lstore_n 2, 1) := by decide +kernel
theorem dX4_reckon_42 : decode cX4_reckon 42 = .ok (.lload 7, 2) := by decide +kernel
theorem dX4_reckon_44 : decode cX4_reckon 44 = .ok (.lstore 4, 2) := by decide +kernel
theorem dX4_reckon_46 : decode cX4_reckon 46 = .ok (.lload_n 2, 1) := by decide +kernel
theorem dX4_reckon_47 : decode cX4_reckon 47 = .ok (.invokestatic 65, 3) := by decide +kernel
theorem dX4_reckon_50 : decode cX4_reckon 50 = .ok (.ifCond .ne 11, 3) := by decide +kernel
theorem dX4_reckon_53 : decode cX4_reckon 53 = .ok (.lload 4, 2) := by decide +kernel
theorem dX4_reckon_55 : decode cX4_reckon 55 = .ok (.invokestatic 65, 3) := by decide +kernel
theorem dX4_reckon_58 : decode cX4_reckon 58 = .ok (.ifCond .eq 5, 3) := by decide +kernel
theorem dX4_reckon_61 : decode cX4_reckon 61 = .ok (.iconst 0, 1) := by decide +kernel
theorem dX4_reckon_62 : decode cX4_reckon 62 = .ok (.ireturn, 1) := by decide +kernel
theorem dX4_reckon_63 : decode cX4_reckon 63 = .ok (.iinc 6 1, 3) := by decide +kernel
theorem dX4_reckon_66 : decode cX4_reckon 66 = .ok (.goto (-58), 3) := by decide +kernel
theorem dX4_reckon_69 : decode cX4_reckon 69 = .ok (.aload_n 0, 1) := by decide +kernel
theorem dX4_reckon_70 : decode cX4_reckon 70 = .ok (.lload_n 2, 1) := by decide +kernel
theorem dX4_reckon_71 : decode cX4_reckon 71 = .ok (.l2i, 1) := by decide +kernel
theorem dX4_reckon_72 : decode cX4_reckon 72 = .ok (.putfield 25, 3) := by decide +kernel
theorem dX4_reckon_75 : decode cX4_reckon 75 = .ok (.aload_n 0, 1) := by decide +kernel
theorem dX4_reckon_76 : decode cX4_reckon 76 = .ok (.lload 4, 2) := by decide +kernel
theorem dX4_reckon_78 : decode cX4_reckon 78 = .ok (.l2i, 1) := by decide +kernel
theorem dX4_reckon_79 : decode cX4_reckon 79 = .ok (.putfield 28, 3) := by decide +kernel
theorem dX4_reckon_82 : decode cX4_reckon 82 = .ok (.iconst 1, 1) := by decide +kernel
theorem dX4_reckon_83 : decode cX4_reckon 83 = .ok (.ireturn, 1) := by decide +kernel
set_option maxRecDepth 20000 in
theorem ggX4_badly_X4_firstBad : GoodIn wsX4_badly wsX4_firstBad := goodIn_r _ [7, 8, 9, 6, 10, 11, 12, 13, 14, 15, 16, 17, 28, 29] (by decide +kernel) (by decide +kernel)
set_option maxRecDepth 20000 in
theorem gX4_badly_X4_firstBad : GoodIn wsX4_badly (va_wsS RX4 69 yX4_firstBad wsX4_firstBad) := goodIn_app (goodIn_of _ (by decide +kernel)) ggX4_badly_X4_firstBad
set_option maxRecDepth 20000 in
theorem ggX4_badly_X4_hasPoint : GoodIn wsX4_badly wsX4_hasPoint := goodIn_r _ [21, 3, 22, 23, 24, 25, 26, 27] (by decide +kernel) (by decide +kernel)
set_option maxRecDepth 20000 in
theorem gX4_badly_X4_hasPoint : GoodIn wsX4_badly (wsV RX4 31 RX4 yX4_hasPoint wsX4_hasPoint) := goodIn_app (goodIn_of _ (by decide +kernel)) ggX4_badly_X4_hasPoint
theorem dX4_badly_0 : decode cX4_badly 0 = .ok (.aload_n 0, 1) := by decide +kernel
theorem dX4_badly_1 : decode cX4_badly 1 = .ok (.getfield 9, 3) := by decide +kernel
theorem dX4_badly_4 : decode cX4_badly 4 = .ok (.aload_n 0, 1) := by decide +kernel
theorem dX4_badly_5 : decode cX4_badly 5 = .ok (.getfield 18, 3) := by decide +kernel
theorem dX4_badly_8 : decode cX4_badly 8 = .ok (.aload_n 1, 1) := by decide +kernel
theorem dX4_badly_9 : decode cX4_badly 9 = .ok (.invokestatic 69, 3) := by decide +kernel
theorem dX4_badly_12 : decode cX4_badly 12 = .ok (.istore_n 2, 1) := by decide +kernel
theorem dX4_badly_13 : decode cX4_badly 13 = .ok (.aload_n 0, 1) := by decide +kernel
theorem dX4_badly_14 : decode cX4_badly 14 = .ok (.invokevirtual 31, 3) := by decide +kernel
theorem dX4_badly_17 : decode cX4_badly 17 = .ok (.ifCond .eq 17, 3) := by decide +kernel
theorem dX4_badly_20 : decode cX4_badly 20 = .ok (.iload_n 2, 1) := by decide +kernel
theorem dX4_badly_21 : decode cX4_badly 21 = .ok (.aload_n 0, 1) := by decide +kernel
theorem dX4_badly_22 : decode cX4_badly 22 = .ok (.getfield 22, 3) := by decide +kernel
theorem dX4_badly_25 : decode cX4_badly 25 = .ok (.if_icmp .lt 9, 3) := by decide +kernel
theorem dX4_badly_28 : decode cX4_badly 28 = .ok (.iload_n 2, 1) := by decide +kernel
theorem dX4_badly_29 : decode cX4_badly 29 = .ok (.iconst 1, 1) := by decide +kernel
theorem dX4_badly_30 : decode cX4_badly 30 = .ok (.iadd, 1) := by decide +kernel
theorem dX4_badly_31 : decode cX4_badly 31 = .ok (.goto 4, 3) := by decide +kernel
theorem dX4_badly_34 : decode cX4_badly 34 = .ok (.iload_n 2, 1) := by decide +kernel
theorem dX4_badly_35 : decode cX4_badly 35 = .ok (.ireturn, 1) := by decide +kernel
set_option maxRecDepth 20000 in
theorem ggX4_firstBad_X4_isLessThanOne : GoodIn wsX4_firstBad wsX4_isLessThanOne := goodIn_r _ [4, 5, 6, 7, 8, 9, 10, 11, 12, 13] (by decide +kernel) (by decide +kernel)
set_option maxRecDepth 20000 in
theorem gX4_firstBad_X4_isLessThanOne : GoodIn wsX4_firstBad (va_wsS RX4 73 yX4_isLessThanOne wsX4_isLessThanOne) := goodIn_app (goodIn_of _ (by decide +kernel)) ggX4_firstBad_X4_isLessThanOne
theorem dX4_firstBad_0 : decode cX4_firstBad 0 = .ok (.iconst 0, 1) := by decide +kernel
theorem dX4_firstBad_1 : decode cX4_firstBad 1 = .ok (.istore_n 3, 1) := by decide +kernel
theorem dX4_firstBad_2 : decode cX4_firstBad 2 = .ok (.iload_n 3, 1) := by decide +kernel
theorem dX4_firstBad_3 : decode cX4_firstBad 3 = .ok (.iload_n 1, 1) := by decide +kernel
theorem dX4_firstBad_4 : decode cX4_firstBad 4 = .ok (.if_icmp .ge 21, 3) := by decide +kernel
theorem dX4_firstBad_7 : decode cX4_firstBad 7 = .ok (.aload_n 0, 1) := by decide +kernel
theorem dX4_firstBad_8 : decode cX4_firstBad 8 = .ok (.iload_n 3, 1) := by decide +kernel
theorem dX4_firstBad_9 : decode cX4_firstBad 9 = .ok (.iload_n 1, 1) := by decide +kernel
theorem dX4_firstBad_10 : decode cX4_firstBad 10 = .ok (.aload_n 2, 1) := by decide +kernel
theorem dX4_firstBad_11 : decode cX4_firstBad 11 = .ok (.invokestatic 73, 3) := by decide +kernel
theorem dX4_firstBad_14 : decode cX4_firstBad 14 = .ok (.ifCond .ne 5, 3) := by decide +kernel
theorem dX4_firstBad_17 : decode cX4_firstBad 17 = .ok (.iload_n 3, 1) := by decide +kernel
theorem dX4_firstBad_18 : decode cX4_firstBad 18 = .ok (.ireturn, 1) := by decide +kernel
theorem dX4_firstBad_19 : decode cX4_firstBad 19 = .ok (.iinc 3 1, 3) := by decide +kernel
theorem dX4_firstBad_22 : decode cX4_firstBad 22 = .ok (.goto (-20), 3) := by decide +kernel
theorem dX4_firstBad_25 : decode cX4_firstBad 25 = .ok (.iconst (-1), 1) := by decide +kernel
theorem dX4_firstBad_26 : decode cX4_firstBad 26 = .ok (.ireturn, 1) := by decide +kernel
set_option maxRecDepth 20000 in
theorem ggX4_isLessThanOne_X0_figureOfOne : GoodIn wsX4_isLessThanOne wsX0_figureOfOne := goodIn_r _ [5, 6, 7, 8, 9] (by decide +kernel) (by decide +kernel)
set_option maxRecDepth 20000 in
theorem gX4_isLessThanOne_X0_figureOfOne : GoodIn wsX4_isLessThanOne (wsV RX4 77 RX0 yX0_figureOfOne wsX0_figureOfOne) := goodIn_app (goodIn_of _ (by decide +kernel)) ggX4_isLessThanOne_X0_figureOfOne
theorem dX4_isLessThanOne_0 : decode cX4_isLessThanOne 0 = .ok (.iload_n 1, 1) := by decide +kernel
theorem dX4_isLessThanOne_1 : decode cX4_isLessThanOne 1 = .ok (.istore 4, 2) := by decide +kernel
theorem dX4_isLessThanOne_3 : decode cX4_isLessThanOne 3 = .ok (.iload 4, 2) := by decide +kernel
theorem dX4_isLessThanOne_5 : decode cX4_isLessThanOne 5 = .ok (.iload_n 2, 1) := by decide +kernel
theorem dX4_isLessThanOne_6 : decode cX4_isLessThanOne 6 = .ok (.if_icmp .ge 43, 3) := by decide +kernel
theorem dX4_isLessThanOne_9 : decode cX4_isLessThanOne 9 = .ok (.aload_n 3, 1) := by decide +kernel
theorem dX4_isLessThanOne_10 : decode cX4_isLessThanOne 10 = .ok (.iload 4, 2) := by decide +kernel
theorem dX4_isLessThanOne_12 : decode cX4_isLessThanOne 12 = .ok (.iload_n 1, 1) := by decide +kernel
theorem dX4_isLessThanOne_13 : decode cX4_isLessThanOne 13 = .ok (.isub, 1) := by decide +kernel
theorem dX4_isLessThanOne_14 : decode cX4_isLessThanOne 14 = .ok (.invokevirtual 77, 3) := by decide +kernel
theorem dX4_isLessThanOne_17 : decode cX4_isLessThanOne 17 = .ok (.istore 5, 2) := by decide +kernel
theorem dX4_isLessThanOne_19 : decode cX4_isLessThanOne 19 = .ok (.aload_n 0, 1) := by decide +kernel
theorem dX4_isLessThanOne_20 : decode cX4_isLessThanOne 20 = .ok (.iload 4, 2) := by decide +kernel
theorem dX4_isLessThanOne_22 : decode cX4_isLessThanOne 22 = .ok (.iaload, 1) := by decide +kernel
theorem dX4_isLessThanOne_23 : decode cX4_isLessThanOne 23 = .ok (.iload 5, 2) := by decide +kernel
theorem dX4_isLessThanOne_25 : decode cX4_isLessThanOne 25 = .ok (.if_icmp .eq 18, 3) := by decide +kernel
theorem dX4_isLessThanOne_28 : decode cX4_isLessThanOne 28 = .ok (.aload_n 0, 1) := by decide +kernel
theorem dX4_isLessThanOne_29 : decode cX4_isLessThanOne 29 = .ok (.iload 4, 2) := by decide +kernel
theorem dX4_isLessThanOne_31 : decode cX4_isLessThanOne 31 = .ok (.iaload, 1) := by decide +kernel
theorem dX4_isLessThanOne_32 : decode cX4_isLessThanOne 32 = .ok (.iload 5, 2) := by decide +kernel
theorem dX4_isLessThanOne_34 : decode cX4_isLessThanOne 34 = .ok (.if_icmp .ge 7, 3) := by decide +kernel
theorem dX4_isLessThanOne_37 : decode cX4_isLessThanOne 37 = .ok (.iconst 1, 1) := by decide +kernel
theorem dX4_isLessThanOne_38 : decode cX4_isLessThanOne 38 = .ok (.goto 4, 3) := by decide +kernel
theorem dX4_isLessThanOne_41 : decode cX4_isLessThanOne 41 = .ok (.iconst 0, 1) := by decide +kernel
theorem dX4_isLessThanOne_42 : decode cX4_isLessThanOne 42 = .ok (.ireturn, 1) := by decide +kernel
theorem dX4_isLessThanOne_43 : decode cX4_isLessThanOne 43 = .ok (.iinc 4 1, 3) := by decide +kernel
theorem dX4_isLessThanOne_46 : decode cX4_isLessThanOne 46 = .ok (.goto (-43), 3) := by decide +kernel
theorem dX4_isLessThanOne_49 : decode cX4_isLessThanOne 49 = .ok (.iconst 1, 1) := by decide +kernel
theorem dX4_isLessThanOne_50 : decode cX4_isLessThanOne 50 = .ok (.ireturn, 1) := by decide +kernel
set_option maxRecDepth 20000 in
theorem ggX4_findFollower_X4_firstBad : GoodIn wsX4_findFollower wsX4_firstBad := goodIn_r _ [11, 12, 13, 10, 14, 15, 16, 17, 18, 19, 20, 21, 28, 29] (by decide +kernel) (by decide +kernel)
set_option maxRecDepth 20000 in
theorem gX4_findFollower_X4_firstBad : GoodIn wsX4_findFollower (va_wsS RX4 69 yX4_firstBad wsX4_firstBad) := goodIn_app (goodIn_of _ (by decide +kernel)) ggX4_findFollower_X4_firstBad
theorem dX4_findFollower_0 : decode cX4_findFollower 0 = .ok (.aload_n 0, 1) := by decide +kernel
theorem dX4_findFollower_1 : decode cX4_findFollower 1 = .ok (.getfield 9, 3) := by decide +kernel
theorem dX4_findFollower_4 : decode cX4_findFollower 4 = .ok (.iconst 0, 1) := by decide +kernel
theorem dX4_findFollower_5 : decode cX4_findFollower 5 = .ok (.aload_n 0, 1) := by decide +kernel
theorem dX4_findFollower_6 : decode cX4_findFollower 6 = .ok (.getfield 15, 3) := by decide +kernel
theorem dX4_findFollower_9 : decode cX4_findFollower 9 = .ok (.iconst 0, 1) := by decide +kernel
theorem dX4_findFollower_10 : decode cX4_findFollower 10 = .ok (.aload_n 0, 1) := by decide +kernel
theorem dX4_findFollower_11 : decode cX4_findFollower 11 = .ok (.getfield 18, 3) := by decide +kernel
theorem dX4_findFollower_14 : decode cX4_findFollower 14 = .ok (.invokestatic 81, 3) := by decide +kernel
theorem dX4_findFollower_17 : decode cX4_findFollower 17 = .ok (.aload_n 0, 1) := by decide +kernel
theorem dX4_findFollower_18 : decode cX4_findFollower 18 = .ok (.getfield 18, 3) := by decide +kernel
theorem dX4_findFollower_21 : decode cX4_findFollower 21 = .ok (.iconst 1, 1) := by decide +kernel
theorem dX4_findFollower_22 : decode cX4_findFollower 22 = .ok (.isub, 1) := by decide +kernel
theorem dX4_findFollower_23 : decode cX4_findFollower 23 = .ok (.istore_n 2, 1) := by decide +kernel
theorem dX4_findFollower_24 : decode cX4_findFollower 24 = .ok (.iload_n 2, 1) := by decide +kernel
theorem dX4_findFollower_25 : decode cX4_findFollower 25 = .ok (.ifCond .lt 43, 3) := by decide +kernel
theorem dX4_findFollower_28 : decode cX4_findFollower 28 = .ok (.aload_n 0, 1) := by decide +kernel
theorem dX4_findFollower_29 : decode cX4_findFollower 29 = .ok (.getfield 15, 3) := by decide +kernel
theorem dX4_findFollower_32 : decode cX4_findFollower 32 = .ok (.iload_n 2, 1) := by decide +kernel
theorem dX4_findFollower_33 : decode cX4_findFollower 33 = .ok (.dup2, 1) := by decide +kernel
theorem dX4_findFollower_34 : decode cX4_findFollower 34 = .ok (.iaload, 1) := by decide +kernel
theorem dX4_findFollower_35 : decode cX4_findFollower 35 = .ok (.iconst 1, 1) := by decide +kernel
theorem dX4_findFollower_36 : decode cX4_findFollower 36 = .ok (.iadd, 1) := by decide +kernel
theorem dX4_findFollower_37 : decode cX4_findFollower 37 = .ok (.iastore, 1) := by decide +kernel
theorem dX4_findFollower_38 : decode cX4_findFollower 38 = .ok (.aload_n 0, 1) := by decide +kernel
theorem dX4_findFollower_39 : decode cX4_findFollower 39 = .ok (.getfield 15, 3) := by decide +kernel
theorem dX4_findFollower_42 : decode cX4_findFollower 42 = .ok (.iload_n 2, 1) := by decide +kernel
theorem dX4_findFollower_43 : decode cX4_findFollower 43 = .ok (.iconst 1, 1) := by decide +kernel
theorem dX4_findFollower_44 : decode cX4_findFollower 44 = .ok (.iadd, 1) := by decide +kernel
theorem dX4_findFollower_45 : decode cX4_findFollower 45 = .ok (.aload_n 1, 1) := by decide +kernel
theorem dX4_findFollower_46 : decode cX4_findFollower 46 = .ok (.invokestatic 69, 3) := by decide +kernel
theorem dX4_findFollower_49 : decode cX4_findFollower 49 = .ok (.iconst (-1), 1) := by decide +kernel
theorem dX4_findFollower_50 : decode cX4_findFollower 50 = .ok (.if_icmp .ne 5, 3) := by decide +kernel
theorem dX4_findFollower_53 : decode cX4_findFollower 53 = .ok (.iconst 1, 1) := by decide +kernel
theorem dX4_findFollower_54 : decode cX4_findFollower 54 = .ok (.ireturn, 1) := by decide +kernel
theorem dX4_findFollower_55 : decode cX4_findFollower 55 = .ok (.aload_n 0, 1) := by decide +kernel
theorem dX4_findFollower_56 : decode cX4_findFollower 56 = .ok (.getfield 15, 3) := by decide +kernel
theorem dX4_findFollower_59 : decode cX4_findFollower 59 = .ok (.iload_n 2, 1) := by decide +kernel
theorem dX4_findFollower_60 : decode cX4_findFollower 60 = .ok (.iconst 0, 1) := by decide +kernel
theorem dX4_findFollower_61 : decode cX4_findFollower 61 = .ok (.iastore, 1) := by decide +kernel
theorem dX4_findFollower_62 : decode cX4_findFollower 62 = .ok (.iinc 2 (-1), 3) := by decide +kernel
theorem dX4_findFollower_65 : decode cX4_findFollower 65 = .ok (.goto (-41), 3) := by decide +kernel
theorem dX4_findFollower_68 : decode cX4_findFollower 68 = .ok (.iconst 0, 1) := by decide +kernel
theorem dX4_findFollower_69 : decode cX4_findFollower 69 = .ok (.ireturn, 1) := by decide +kernel
theorem dX5_init_0 : decode cX5_init 0 = .ok (.aload_n 0, 1) := by decide +kernel
theorem dX5_init_1 : decode cX5_init 1 = .ok (.invokespecial 3, 3) := by decide +kernel
theorem dX5_init_4 : decode cX5_init 4 = .ok (.aload_n 0, 1) := by decide +kernel
theorem dX5_init_5 : decode cX5_init 5 = .ok (.bipush 101, 2) := by decide +kernel
theorem dX5_init_7 : decode cX5_init 7 = .ok (.newarray .int, 2) := by decide +kernel
theorem dX5_init_9 : decode cX5_init 9 = .ok (.putfield 9, 3) := by decide +kernel
theorem dX5_init_12 : decode cX5_init 12 = .ok (.aload_n 0, 1) := by decide +kernel
theorem dX5_init_13 : decode cX5_init 13 = .ok (.iconst 0, 1) := by decide +kernel
theorem dX5_init_14 : decode cX5_init 14 = .ok (.putfield 15, 3) := by decide +kernel
theorem dX5_init_17 : decode cX5_init 17 = .ok (.aload_n 0, 1) := by decide +kernel
theorem dX5_init_18 : decode cX5_init 18 = .ok (.iconst 0, 1) := by decide +kernel
theorem dX5_init_19 : decode cX5_init 19 = .ok (.putfield 19, 3) := by decide +kernel
theorem dX5_init_22 : decode cX5_init 22 = .ok (.aload_n 0, 1) := by decide +kernel
theorem dX5_init_23 : decode cX5_init 23 = .ok (.iconst 0, 1) := by decide +kernel
theorem dX5_init_24 : decode cX5_init 24 = .ok (.putfield 22, 3) := by decide +kernel
theorem dX5_init_27 : decode cX5_init 27 = .ok (.aload_n 0, 1) := by decide +kernel
theorem dX5_init_28 : decode cX5_init 28 = .ok (.iconst (-1), 1) := by decide +kernel
theorem dX5_init_29 : decode cX5_init 29 = .ok (.putfield 26, 3) := by decide +kernel
theorem dX5_init_32 : decode cX5_init 32 = .ok (.aload_n 0, 1) := by decide +kernel
theorem dX5_init_33 : decode cX5_init 33 = .ok (.iconst (-1), 1) := by decide +kernel
theorem dX5_init_34 : decode cX5_init 34 = .ok (.putfield 29, 3) := by decide +kernel
theorem dX5_init_37 : decode cX5_init 37 = .ok (.aload_n 0, 1) := by decide +kernel
theorem dX5_init_38 : decode cX5_init 38 = .ok (.bipush 61, 2) := by decide +kernel
theorem dX5_init_40 : decode cX5_init 40 = .ok (.newarray .long, 2) := by decide +kernel
theorem dX5_init_42 : decode cX5_init 42 = .ok (.putfield 32, 3) := by decide +kernel
theorem dX5_init_45 : decode cX5_init 45 = .ok (.aload_n 0, 1) := by decide +kernel
theorem dX5_init_46 : decode cX5_init 46 = .ok (.bipush 61, 2) := by decide +kernel
theorem dX5_init_48 : decode cX5_init 48 = .ok (.newarray .long, 2) := by decide +kernel
theorem dX5_init_50 : decode cX5_init 50 = .ok (.putfield 36, 3) := by decide +kernel
theorem dX5_init_53 : decode cX5_init 53 = .ok (.aload_n 0, 1) := by decide +kernel
theorem dX5_init_54 : decode cX5_init 54 = .ok (.bipush 40, 2) := by decide +kernel
theorem dX5_init_56 : decode cX5_init 56 = .ok (.newarray .long, 2) := by decide +kernel
theorem dX5_init_58 : decode cX5_init 58 = .ok (.putfield 39, 3) := by decide +kernel
theorem dX5_init_61 : decode cX5_init 61 = .ok (.aload_n 0, 1) := by decide +kernel
theorem dX5_init_62 : decode cX5_init 62 = .ok (.bipush 40, 2) := by decide +kernel
theorem dX5_init_64 : decode cX5_init 64 = .ok (.newarray .long, 2) := by decide +kernel
theorem dX5_init_66 : decode cX5_init 66 = .ok (.putfield 42, 3) := by decide +kernel
theorem dX5_init_69 : decode cX5_init 69 = .ok (.aload_n 0, 1) := by decide +kernel
theorem dX5_init_70 : decode cX5_init 70 = .ok (.lconst 0, 1) := by decide +kernel
theorem dX5_init_71 : decode cX5_init 71 = .ok (.putfield 45, 3) := by decide +kernel
theorem dX5_init_74 : decode cX5_init 74 = .ok (.aload_n 0, 1) := by decide +kernel
theorem dX5_init_75 : decode cX5_init 75 = .ok (.lconst 0, 1) := by decide +kernel
theorem dX5_init_76 : decode cX5_init 76 = .ok (.putfield 49, 3) := by decide +kernel
theorem dX5_init_79 : decode cX5_init 79 = .ok (.aload_n 0, 1) := by decide +kernel
theorem dX5_init_80 : decode cX5_init 80 = .ok (.iconst 0, 1) := by decide +kernel
theorem dX5_init_81 : decode cX5_init 81 = .ok (.putfield 52, 3) := by decide +kernel
theorem dX5_init_84 : decode cX5_init 84 = .ok (.aload_n 0, 1) := by decide +kernel
theorem dX5_init_85 : decode cX5_init 85 = .ok (.iconst 0, 1) := by decide +kernel
theorem dX5_init_86 : decode cX5_init 86 = .ok (.putfield 55, 3) := by decide +kernel
theorem dX5_init_89 : decode cX5_init 89 = .ok (.aload_n 0, 1) := by decide +kernel
theorem dX5_init_90 : decode cX5_init 90 = .ok (.iconst 0, 1) := by decide +kernel
theorem dX5_init_91 : decode cX5_init 91 = .ok (.putfield 58, 3) := by decide +kernel
theorem dX5_init_94 : decode cX5_init 94 = .ok (.aload_n 0, 1) := by decide +kernel
theorem dX5_init_95 : decode cX5_init 95 = .ok (.iconst 0, 1) := by decide +kernel
theorem dX5_init_96 : decode cX5_init 96 = .ok (.putfield 61, 3) := by decide +kernel
theorem dX5_init_99 : decode cX5_init 99 = .ok (.return_, 1) := by decide +kernel
theorem dX5_figureCount_0 : decode cX5_figureCount 0 = .ok (.aload_n 0, 1) := by decide +kernel
theorem dX5_figureCount_1 : decode cX5_figureCount 1 = .ok (.getfield 15, 3) := by decide +kernel
theorem dX5_figureCount_4 : decode cX5_figureCount 4 = .ok (.aload_n 0, 1) := by decide +kernel
theorem dX5_figureCount_5 : decode cX5_figureCount 5 = .ok (.getfield 19, 3) := by decide +kernel
theorem dX5_figureCount_8 : decode cX5_figureCount 8 = .ok (.iadd, 1) := by decide +kernel
theorem dX5_figureCount_9 : decode cX5_figureCount 9 = .ok (.ireturn, 1) := by decide +kernel
theorem dX5_hasFigure_0 : decode cX5_hasFigure 0 = .ok (.iload_n 1, 1) := by decide +kernel
theorem dX5_hasFigure_1 : decode cX5_hasFigure 1 = .ok (.ifCond .lt 20, 3) := by decide +kernel
theorem dX5_hasFigure_4 : decode cX5_hasFigure 4 = .ok (.iload_n 1, 1) := by decide +kernel
theorem dX5_hasFigure_5 : decode cX5_hasFigure 5 = .ok (.aload_n 0, 1) := by decide +kernel
theorem dX5_hasFigure_6 : decode cX5_hasFigure 6 = .ok (.getfield 15, 3) := by decide +kernel
theorem dX5_hasFigure_9 : decode cX5_hasFigure 9 = .ok (.aload_n 0, 1) := by decide +kernel
theorem dX5_hasFigure_10 : decode cX5_hasFigure 10 = .ok (.getfield 19, 3) := by decide +kernel
theorem dX5_hasFigure_13 : decode cX5_hasFigure 13 = .ok (.iadd, 1) := by decide +kernel
theorem dX5_hasFigure_14 : decode cX5_hasFigure 14 = .ok (.if_icmp .ge 7, 3) := by decide +kernel
theorem dX5_hasFigure_17 : decode cX5_hasFigure 17 = .ok (.iconst 1, 1) := by decide +kernel
theorem dX5_hasFigure_18 : decode cX5_hasFigure 18 = .ok (.goto 4, 3) := by decide +kernel
theorem dX5_hasFigure_21 : decode cX5_hasFigure 21 = .ok (.iconst 0, 1) := by decide +kernel
theorem dX5_hasFigure_22 : decode cX5_hasFigure 22 = .ok (.ireturn, 1) := by decide +kernel
theorem dX5_tell_0 : decode cX5_tell 0 = .ok (.iload_n 1, 1) := by decide +kernel
theorem dX5_tell_1 : decode cX5_tell 1 = .ok (.tableswitch 59 3 6 #[31, 36, 41, 54], 31) := by decide +kernel
theorem dX5_tell_32 : decode cX5_tell 32 = .ok (.aload_n 0, 1) := by decide +kernel
theorem dX5_tell_33 : decode cX5_tell 33 = .ok (.getfield 15, 3) := by decide +kernel
theorem dX5_tell_36 : decode cX5_tell 36 = .ok (.ireturn, 1) := by decide +kernel
theorem dX5_tell_37 : decode cX5_tell 37 = .ok (.aload_n 0, 1) := by decide +kernel
theorem dX5_tell_38 : decode cX5_tell 38 = .ok (.getfield 19, 3) := by decide +kernel
theorem dX5_tell_41 : decode cX5_tell 41 = .ok (.ireturn, 1) := by decide +kernel
theorem dX5_tell_42 : decode cX5_tell 42 = .ok (.aload_n 0, 1) := by decide +kernel
theorem dX5_tell_43 : decode cX5_tell 43 = .ok (.getfield 22, 3) := by decide +kernel
theorem dX5_tell_46 : decode cX5_tell 46 = .ok (.ifCond .eq 7, 3) := by decide +kernel
theorem dX5_tell_49 : decode cX5_tell 49 = .ok (.iconst 1, 1) := by decide +kernel
theorem dX5_tell_50 : decode cX5_tell 50 = .ok (.goto 4, 3) := by decide +kernel
theorem dX5_tell_53 : decode cX5_tell 53 = .ok (.iconst 0, 1) := by decide +kernel
theorem dX5_tell_54 : decode cX5_tell 54 = .ok (.ireturn, 1) := by decide +kernel
theorem dX5_tell_55 : decode cX5_tell 55 = .ok (.aload_n 0, 1) := by decide +kernel
theorem dX5_tell_56 : decode cX5_tell 56 = .ok (.getfield 26, 3) := by decide +kernel
theorem dX5_tell_59 : decode cX5_tell 59 = .ok (.ireturn, 1) := by decide +kernel
theorem dX5_tell_60 : decode cX5_tell 60 = .ok (.aload_n 0, 1) := by decide +kernel
theorem dX5_tell_61 : decode cX5_tell 61 = .ok (.getfield 29, 3) := by decide +kernel
theorem dX5_tell_64 : decode cX5_tell 64 = .ok (.ireturn, 1) := by decide +kernel
set_option maxRecDepth 20000 in
theorem ggX5_spell_X5_highestPlace : GoodIn wsX5_spell wsX5_highestPlace := goodIn_r _ [11, 12, 13, 5, 6, 14, 15, 16, 17, 18, 19, 20, 21, 22, 23, 24, 25, 26, 27, 28, 29, 30, 31, 32, 33, 34, 35, 36, 37, 38, 67, 68, 69, 70, 71, 72, 73, 74, 75, 76, 77, 78, 79, 80, 81, 82, 83, 84] (by decide +kernel) (by decide +kernel)
set_option maxRecDepth 20000 in
theorem gX5_spell_X5_highestPlace : GoodIn wsX5_spell (wsV RX5 72 RX5 yX5_highestPlace wsX5_highestPlace) := goodIn_app (goodIn_of _ (by decide +kernel)) ggX5_spell_X5_highestPlace
set_option maxRecDepth 20000 in
theorem ggX5_spell_X5_spellAhead : GoodIn wsX5_spell wsX5_spellAhead := goodIn_r _ [42, 43, 44, 12, 13, 45, 46, 47, 10, 48, 5, 6, 25, 26, 27, 17, 28, 29, 24, 30, 31, 32, 33, 34, 35, 36, 37, 38, 19, 67, 68, 69, 70, 71, 72, 73, 74, 75, 76, 77, 78, 79, 80, 81, 82, 83, 84] (by decide +kernel) (by decide +kernel)
set_option maxRecDepth 20000 in
theorem gX5_spell_X5_spellAhead : GoodIn wsX5_spell (wsV RX5 76 RX5 yX5_spellAhead wsX5_spellAhead) := goodIn_app (goodIn_of _ (by decide +kernel)) ggX5_spell_X5_spellAhead
set_option maxRecDepth 20000 in
theorem ggX5_spell_X5_spellBehind : GoodIn wsX5_spell wsX5_spellBehind := goodIn_r _ [52, 53, 54, 55, 56, 5, 57, 6, 44, 43, 58, 59, 60, 61, 10, 62, 63, 64, 65, 66, 14, 15, 16, 17, 18, 19, 20, 21, 22, 23, 24, 45, 46, 47, 48, 25, 26, 27, 28, 29, 30, 31, 32, 33, 34, 35, 36, 37, 38, 67, 68, 69, 70, 71, 72, 73, 74, 75, 76, 77, 78, 79, 80, 81, 82, 83, 84] (by decide +kernel) (by decide +kernel)
set_option maxRecDepth 20000 in
theorem gX5_spell_X5_spellBehind : GoodIn wsX5_spell (wsV RX5 80 RX5 yX5_spellBehind wsX5_spellBehind) := goodIn_app (goodIn_of _ (by decide +kernel)) ggX5_spell_X5_spellBehind
theorem dX5_spell_0 : decode cX5_spell 0 = .ok (.aload_n 0, 1) := by decide +kernel
theorem dX5_spell_1 : decode cX5_spell 1 = .ok (.getfield 52, 3) := by decide +kernel
theorem dX5_spell_4 : decode cX5_spell 4 = .ok (.aload_n 1, 1) := by decide +kernel
theorem dX5_spell_5 : decode cX5_spell 5 = .ok (.getfield 64, 3) := by decide +kernel
theorem dX5_spell_8 : decode cX5_spell 8 = .ok (.if_icmp .ne 31, 3) := by decide +kernel
theorem dX5_spell_11 : decode cX5_spell 11 = .ok (.aload_n 0, 1) := by decide +kernel
theorem dX5_spell_12 : decode cX5_spell 12 = .ok (.getfield 55, 3) := by decide +kernel
theorem dX5_spell_15 : decode cX5_spell 15 = .ok (.aload_n 1, 1) := by decide +kernel
theorem dX5_spell_16 : decode cX5_spell 16 = .ok (.getfield 69, 3) := by decide +kernel
theorem dX5_spell_19 : decode cX5_spell 19 = .ok (.if_icmp .ne 20, 3) := by decide +kernel
theorem dX5_spell_22 : decode cX5_spell 22 = .ok (.aload_n 0, 1) := by decide +kernel
theorem dX5_spell_23 : decode cX5_spell 23 = .ok (.getfield 58, 3) := by decide +kernel
theorem dX5_spell_26 : decode cX5_spell 26 = .ok (.iload_n 2, 1) := by decide +kernel
theorem dX5_spell_27 : decode cX5_spell 27 = .ok (.if_icmp .ne 12, 3) := by decide +kernel
theorem dX5_spell_30 : decode cX5_spell 30 = .ok (.aload_n 0, 1) := by decide +kernel
theorem dX5_spell_31 : decode cX5_spell 31 = .ok (.getfield 61, 3) := by decide +kernel
theorem dX5_spell_34 : decode cX5_spell 34 = .ok (.iload_n 3, 1) := by decide +kernel
theorem dX5_spell_35 : decode cX5_spell 35 = .ok (.if_icmp .ne 4, 3) := by decide +kernel
theorem dX5_spell_38 : decode cX5_spell 38 = .ok (.return_, 1) := by decide +kernel
theorem dX5_spell_39 : decode cX5_spell 39 = .ok (.aload_n 0, 1) := by decide +kernel
theorem dX5_spell_40 : decode cX5_spell 40 = .ok (.aload_n 1, 1) := by decide +kernel
theorem dX5_spell_41 : decode cX5_spell 41 = .ok (.getfield 64, 3) := by decide +kernel
theorem dX5_spell_44 : decode cX5_spell 44 = .ok (.putfield 52, 3) := by decide +kernel
theorem dX5_spell_47 : decode cX5_spell 47 = .ok (.aload_n 0, 1) := by decide +kernel
theorem dX5_spell_48 : decode cX5_spell 48 = .ok (.aload_n 1, 1) := by decide +kernel
theorem dX5_spell_49 : decode cX5_spell 49 = .ok (.getfield 69, 3) := by decide +kernel
theorem dX5_spell_52 : decode cX5_spell 52 = .ok (.putfield 55, 3) := by decide +kernel
theorem dX5_spell_55 : decode cX5_spell 55 = .ok (.aload_n 0, 1) := by decide +kernel
theorem dX5_spell_56 : decode cX5_spell 56 = .ok (.iload_n 2, 1) := by decide +kernel
theorem dX5_spell_57 : decode cX5_spell 57 = .ok (.putfield 58, 3) := by decide +kernel
theorem dX5_spell_60 : decode cX5_spell 60 = .ok (.aload_n 0, 1) := by decide +kernel
theorem dX5_spell_61 : decode cX5_spell 61 = .ok (.iload_n 3, 1) := by decide +kernel
theorem dX5_spell_62 : decode cX5_spell 62 = .ok (.putfield 61, 3) := by decide +kernel
theorem dX5_spell_65 : decode cX5_spell 65 = .ok (.aload_n 0, 1) := by decide +kernel
theorem dX5_spell_66 : decode cX5_spell 66 = .ok (.iload_n 2, 1) := by decide +kernel
theorem dX5_spell_67 : decode cX5_spell 67 = .ok (.i2l, 1) := by decide +kernel
theorem dX5_spell_68 : decode cX5_spell 68 = .ok (.putfield 45, 3) := by decide +kernel
theorem dX5_spell_71 : decode cX5_spell 71 = .ok (.aload_n 0, 1) := by decide +kernel
theorem dX5_spell_72 : decode cX5_spell 72 = .ok (.iload_n 3, 1) := by decide +kernel
theorem dX5_spell_73 : decode cX5_spell 73 = .ok (.i2l, 1) := by decide +kernel
theorem dX5_spell_74 : decode cX5_spell 74 = .ok (.putfield 49, 3) := by decide +kernel
theorem dX5_spell_77 : decode cX5_spell 77 = .ok (.aload_n 0, 1) := by decide +kernel
theorem dX5_spell_78 : decode cX5_spell 78 = .ok (.aload_n 1, 1) := by decide +kernel
theorem dX5_spell_79 : decode cX5_spell 79 = .ok (.aload_n 0, 1) := by decide +kernel
theorem dX5_spell_80 : decode cX5_spell 80 = .ok (.aload_n 1, 1) := by decide +kernel
theorem dX5_spell_81 : decode cX5_spell 81 = .ok (.invokevirtual 72, 3) := by decide +kernel
theorem dX5_spell_84 : decode cX5_spell 84 = .ok (.invokevirtual 76, 3) := by decide +kernel
theorem dX5_spell_87 : decode cX5_spell 87 = .ok (.aload_n 0, 1) := by decide +kernel
theorem dX5_spell_88 : decode cX5_spell 88 = .ok (.aload_n 1, 1) := by decide +kernel
theorem dX5_spell_89 : decode cX5_spell 89 = .ok (.invokevirtual 80, 3) := by decide +kernel
theorem dX5_spell_92 : decode cX5_spell 92 = .ok (.return_, 1) := by decide +kernel
set_option maxRecDepth 20000 in
theorem ggX5_spellAhead_X5_takeOut : GoodIn wsX5_spellAhead wsX5_takeOut := goodIn_r _ [9, 10, 11, 12, 13, 14, 15, 16, 17, 18, 19, 20, 21, 22, 23, 24, 25, 26, 27, 28, 29, 30, 31, 32, 33, 34, 35, 36, 37, 38, 39, 40, 41, 42, 43, 44, 45, 46] (by decide +kernel) (by decide +kernel)
set_option maxRecDepth 20000 in
theorem gX5_spellAhead_X5_takeOut : GoodIn wsX5_spellAhead (wsV RX5 84 RX5 yX5_takeOut wsX5_takeOut) := goodIn_app (goodIn_of _ (by decide +kernel)) ggX5_spellAhead_X5_takeOut
theorem dX5_spellAhead_0 : decode cX5_spellAhead 0 = .ok (.aload_n 0, 1) := by decide +kernel
theorem dX5_spellAhead_1 : decode cX5_spellAhead 1 = .ok (.iconst 0, 1) := by decide +kernel
theorem dX5_spellAhead_2 : decode cX5_spellAhead 2 = .ok (.putfield 15, 3) := by decide +kernel
theorem dX5_spellAhead_5 : decode cX5_spellAhead 5 = .ok (.iload_n 2, 1) := by decide +kernel
theorem dX5_spellAhead_6 : decode cX5_spellAhead 6 = .ok (.istore_n 3, 1) := by decide +kernel
theorem dX5_spellAhead_7 : decode cX5_spellAhead 7 = .ok (.iload_n 3, 1) := by decide +kernel
theorem dX5_spellAhead_8 : decode cX5_spellAhead 8 = .ok (.ifCond .lt 45, 3) := by decide +kernel
theorem dX5_spellAhead_11 : decode cX5_spellAhead 11 = .ok (.aload_n 0, 1) := by decide +kernel
theorem dX5_spellAhead_12 : decode cX5_spellAhead 12 = .ok (.getfield 9, 3) := by decide +kernel
theorem dX5_spellAhead_15 : decode cX5_spellAhead 15 = .ok (.aload_n 0, 1) := by decide +kernel
theorem dX5_spellAhead_16 : decode cX5_spellAhead 16 = .ok (.getfield 15, 3) := by decide +kernel
theorem dX5_spellAhead_19 : decode cX5_spellAhead 19 = .ok (.aload_n 0, 1) := by decide +kernel
theorem dX5_spellAhead_20 : decode cX5_spellAhead 20 = .ok (.aload_n 1, 1) := by decide +kernel
theorem dX5_spellAhead_21 : decode cX5_spellAhead 21 = .ok (.aload_n 0, 1) := by decide +kernel
theorem dX5_spellAhead_22 : decode cX5_spellAhead 22 = .ok (.getfield 32, 3) := by decide +kernel
theorem dX5_spellAhead_25 : decode cX5_spellAhead 25 = .ok (.iload_n 3, 1) := by decide +kernel
theorem dX5_spellAhead_26 : decode cX5_spellAhead 26 = .ok (.laload, 1) := by decide +kernel
theorem dX5_spellAhead_27 : decode cX5_spellAhead 27 = .ok (.aload_n 0, 1) := by decide +kernel
theorem dX5_spellAhead_28 : decode cX5_spellAhead 28 = .ok (.getfield 36, 3) := by decide +kernel
theorem dX5_spellAhead_31 : decode cX5_spellAhead 31 = .ok (.iload_n 3, 1) := by decide +kernel
theorem dX5_spellAhead_32 : decode cX5_spellAhead 32 = .ok (.laload, 1) := by decide +kernel
theorem dX5_spellAhead_33 : decode cX5_spellAhead 33 = .ok (.invokevirtual 84, 3) := by decide +kernel
theorem dX5_spellAhead_36 : decode cX5_spellAhead 36 = .ok (.iastore, 1) := by decide +kernel
theorem dX5_spellAhead_37 : decode cX5_spellAhead 37 = .ok (.aload_n 0, 1) := by decide +kernel
theorem dX5_spellAhead_38 : decode cX5_spellAhead 38 = .ok (.dup, 1) := by decide +kernel
theorem dX5_spellAhead_39 : decode cX5_spellAhead 39 = .ok (.getfield 15, 3) := by decide +kernel
theorem dX5_spellAhead_42 : decode cX5_spellAhead 42 = .ok (.iconst 1, 1) := by decide +kernel
theorem dX5_spellAhead_43 : decode cX5_spellAhead 43 = .ok (.iadd, 1) := by decide +kernel
theorem dX5_spellAhead_44 : decode cX5_spellAhead 44 = .ok (.putfield 15, 3) := by decide +kernel
theorem dX5_spellAhead_47 : decode cX5_spellAhead 47 = .ok (.iinc 3 (-1), 3) := by decide +kernel
theorem dX5_spellAhead_50 : decode cX5_spellAhead 50 = .ok (.goto (-43), 3) := by decide +kernel
theorem dX5_spellAhead_53 : decode cX5_spellAhead 53 = .ok (.return_, 1) := by decide +kernel
set_option maxRecDepth 20000 in
theorem ggX5_highestPlace_X0_raisedM : GoodIn wsX5_highestPlace wsX0_raisedM := goodIn_r _ [9, 10, 46, 47] (by decide +kernel) (by decide +kernel)
set_option maxRecDepth 20000 in
theorem gX5_highestPlace_X0_raisedM : GoodIn wsX5_highestPlace (wsV RX5 88 RX0 yX0_raisedM wsX0_raisedM) := goodIn_app (goodIn_of _ (by decide +kernel)) ggX5_highestPlace_X0_raisedM
set_option maxRecDepth 20000 in
theorem ggX5_highestPlace_X0_raisedN : GoodIn wsX5_highestPlace wsX0_raisedN := goodIn_r _ [14, 15, 46, 47] (by decide +kernel) (by decide +kernel)
set_option maxRecDepth 20000 in
theorem gX5_highestPlace_X0_raisedN : GoodIn wsX5_highestPlace (wsV RX5 92 RX0 yX0_raisedN wsX0_raisedN) := goodIn_app (goodIn_of _ (by decide +kernel)) ggX5_highestPlace_X0_raisedN
set_option maxRecDepth 20000 in
theorem ggX5_highestPlace_X0_sign : GoodIn wsX5_highestPlace wsX0_sign := goodIn_r _ [19, 20, 15, 21, 22, 23, 24, 25, 26, 27, 8, 28, 29, 10, 46, 47] (by decide +kernel) (by decide +kernel)
set_option maxRecDepth 20000 in
theorem gX5_highestPlace_X0_sign : GoodIn wsX5_highestPlace (wsV RX5 96 RX0 yX0_sign wsX0_sign) := goodIn_app (goodIn_of _ (by decide +kernel)) ggX5_highestPlace_X0_sign
theorem dX5_highestPlace_0 : decode cX5_highestPlace 0 = .ok (.aload_n 0, 1) := by decide +kernel
theorem dX5_highestPlace_1 : decode cX5_highestPlace 1 = .ok (.getfield 32, 3) := by decide +kernel
theorem dX5_highestPlace_4 : decode cX5_highestPlace 4 = .ok (.iconst 0, 1) := by decide +kernel
theorem dX5_highestPlace_5 : decode cX5_highestPlace 5 = .ok (.lconst 1, 1) := by decide +kernel
theorem dX5_highestPlace_6 : decode cX5_highestPlace 6 = .ok (.lastore, 1) := by decide +kernel
theorem dX5_highestPlace_7 : decode cX5_highestPlace 7 = .ok (.aload_n 0, 1) := by decide +kernel
theorem dX5_highestPlace_8 : decode cX5_highestPlace 8 = .ok (.getfield 36, 3) := by decide +kernel
theorem dX5_highestPlace_11 : decode cX5_highestPlace 11 = .ok (.iconst 0, 1) := by decide +kernel
theorem dX5_highestPlace_12 : decode cX5_highestPlace 12 = .ok (.lconst 0, 1) := by decide +kernel
theorem dX5_highestPlace_13 : decode cX5_highestPlace 13 = .ok (.lastore, 1) := by decide +kernel
theorem dX5_highestPlace_14 : decode cX5_highestPlace 14 = .ok (.iconst 0, 1) := by decide +kernel
theorem dX5_highestPlace_15 : decode cX5_highestPlace 15 = .ok (.istore_n 2, 1) := by decide +kernel
theorem dX5_highestPlace_16 : decode cX5_highestPlace 16 = .ok (.iload_n 2, 1) := by decide +kernel
theorem dX5_highestPlace_17 : decode cX5_highestPlace 17 = .ok (.bipush 60, 2) := by decide +kernel
theorem dX5_highestPlace_19 : decode cX5_highestPlace 19 = .ok (.if_icmp .ge 79, 3) := by decide +kernel
theorem dX5_highestPlace_22 : decode cX5_highestPlace 22 = .ok (.aload_n 1, 1) := by decide +kernel
theorem dX5_highestPlace_23 : decode cX5_highestPlace 23 = .ok (.aload_n 0, 1) := by decide +kernel
theorem dX5_highestPlace_24 : decode cX5_highestPlace 24 = .ok (.getfield 36, 3) := by decide +kernel
theorem dX5_highestPlace_27 : decode cX5_highestPlace 27 = .ok (.iload_n 2, 1) := by decide +kernel
theorem dX5_highestPlace_28 : decode cX5_highestPlace 28 = .ok (.laload, 1) := by decide +kernel
theorem dX5_highestPlace_29 : decode cX5_highestPlace 29 = .ok (.invokevirtual 88, 3) := by decide +kernel
theorem dX5_highestPlace_32 : decode cX5_highestPlace 32 = .ok (.lstore_n 3, 1) := by decide +kernel
theorem dX5_highestPlace_33 : decode cX5_highestPlace 33 = .ok (.aload_n 1, 1) := by decide +kernel
theorem dX5_highestPlace_34 : decode cX5_highestPlace 34 = .ok (.aload_n 0, 1) := by decide +kernel
theorem dX5_highestPlace_35 : decode cX5_highestPlace 35 = .ok (.getfield 32, 3) := by decide +kernel
theorem dX5_highestPlace_38 : decode cX5_highestPlace 38 = .ok (.iload_n 2, 1) := by decide +kernel
theorem dX5_highestPlace_39 : decode cX5_highestPlace 39 = .ok (.laload, 1) := by decide +kernel
theorem dX5_highestPlace_40 : decode cX5_highestPlace 40 = .ok (.aload_n 0, 1) := by decide +kernel
theorem dX5_highestPlace_41 : decode cX5_highestPlace 41 = .ok (.getfield 36, 3) := by decide +kernel
theorem dX5_highestPlace_44 : decode cX5_highestPlace 44 = .ok (.iload_n 2, 1) := by decide +kernel
theorem dX5_highestPlace_45 : decode cX5_highestPlace 45 = .ok (.laload, 1) := by decide +kernel
theorem dX5_highestPlace_46 : decode cX5_highestPlace 46 = .ok (.invokevirtual 92, 3) := by decide +kernel
theorem dX5_highestPlace_49 : decode cX5_highestPlace 49 = .ok (.lstore 5, 2) := by decide +kernel
theorem dX5_highestPlace_51 : decode cX5_highestPlace 51 = .ok (.aload_n 1, 1) := by decide +kernel
theorem dX5_highestPlace_52 : decode cX5_highestPlace 52 = .ok (.aload_n 0, 1) := by decide +kernel
theorem dX5_highestPlace_53 : decode cX5_highestPlace 53 = .ok (.getfield 45, 3) := by decide +kernel
theorem dX5_highestPlace_56 : decode cX5_highestPlace 56 = .ok (.lload_n 3, 1) := by decide +kernel
theorem dX5_highestPlace_57 : decode cX5_highestPlace 57 = .ok (.lsub, 1) := by decide +kernel
theorem dX5_highestPlace_58 : decode cX5_highestPlace 58 = .ok (.aload_n 0, 1) := by decide +kernel
theorem dX5_highestPlace_59 : decode cX5_highestPlace 59 = .ok (.getfield 49, 3) := by decide +kernel
theorem dX5_highestPlace_62 : decode cX5_highestPlace 62 = .ok (.lload 5, 2) := by decide +kernel
theorem dX5_highestPlace_64 : decode cX5_highestPlace 64 = .ok (.lsub, 1) := by decide +kernel
theorem dX5_highestPlace_65 : decode cX5_highestPlace 65 = .ok (.invokevirtual 96, 3) := by decide +kernel
theorem dX5_highestPlace_68 : decode cX5_highestPlace 68 = .ok (.ifCond .ge 5, 3) := by decide +kernel
theorem dX5_highestPlace_71 : decode cX5_highestPlace 71 = .ok (.iload_n 2, 1) := by decide +kernel
theorem dX5_highestPlace_72 : decode cX5_highestPlace 72 = .ok (.ireturn, 1) := by decide +kernel
theorem dX5_highestPlace_73 : decode cX5_highestPlace 73 = .ok (.aload_n 0, 1) := by decide +kernel
theorem dX5_highestPlace_74 : decode cX5_highestPlace 74 = .ok (.getfield 32, 3) := by decide +kernel
theorem dX5_highestPlace_77 : decode cX5_highestPlace 77 = .ok (.iload_n 2, 1) := by decide +kernel
theorem dX5_highestPlace_78 : decode cX5_highestPlace 78 = .ok (.iconst 1, 1) := by decide +kernel
theorem dX5_highestPlace_79 : decode cX5_highestPlace 79 = .ok (.iadd, 1) := by decide +kernel
theorem dX5_highestPlace_80 : decode cX5_highestPlace 80 = .ok (.lload_n 3, 1) := by decide +kernel
theorem dX5_highestPlace_81 : decode cX5_highestPlace 81 = .ok (.lastore, 1) := by decide +kernel
theorem dX5_highestPlace_82 : decode cX5_highestPlace 82 = .ok (.aload_n 0, 1) := by decide +kernel
theorem dX5_highestPlace_83 : decode cX5_highestPlace 83 = .ok (.getfield 36, 3) := by decide +kernel
theorem dX5_highestPlace_86 : decode cX5_highestPlace 86 = .ok (.iload_n 2, 1) := by decide +kernel
theorem dX5_highestPlace_87 : decode cX5_highestPlace 87 = .ok (.iconst 1, 1) := by decide +kernel
theorem dX5_highestPlace_88 : decode cX5_highestPlace 88 = .ok (.iadd, 1) := by decide +kernel
theorem dX5_highestPlace_89 : decode cX5_highestPlace 89 = .ok (.lload 5, 2) := by decide +kernel
theorem dX5_highestPlace_91 : decode cX5_highestPlace 91 = .ok (.lastore, 1) := by decide +kernel
theorem dX5_highestPlace_92 : decode cX5_highestPlace 92 = .ok (.iinc 2 1, 3) := by decide +kernel
theorem dX5_highestPlace_95 : decode cX5_highestPlace 95 = .ok (.goto (-79), 3) := by decide +kernel
theorem dX5_highestPlace_98 : decode cX5_highestPlace 98 = .ok (.bipush 60, 2) := by decide +kernel
theorem dX5_highestPlace_100 : decode cX5_highestPlace 100 = .ok (.ireturn, 1) := by decide +kernel
set_option maxRecDepth 20000 in
theorem ggX5_spellBehind_X5_isAnythingLeft : GoodIn wsX5_spellBehind wsX5_isAnythingLeft := goodIn_r _ [15, 5, 7, 49, 50, 51, 52, 53, 54, 55, 56, 57, 58, 59, 60, 61, 62, 63, 64] (by decide +kernel) (by decide +kernel)
set_option maxRecDepth 20000 in
theorem gX5_spellBehind_X5_isAnythingLeft : GoodIn wsX5_spellBehind (wsV RX5 100 RX5 yX5_isAnythingLeft wsX5_isAnythingLeft) := goodIn_app (goodIn_of _ (by decide +kernel)) ggX5_spellBehind_X5_isAnythingLeft
set_option maxRecDepth 20000 in
theorem ggX5_spellBehind_X5_lookForRound : GoodIn wsX5_spellBehind wsX5_lookForRound := goodIn_r _ [19, 3, 4, 5, 6, 7, 2, 49, 50, 51, 52, 53, 54, 55, 56, 57, 58, 59, 60, 61, 62, 63, 64] (by decide +kernel) (by decide +kernel)
set_option maxRecDepth 20000 in
theorem gX5_spellBehind_X5_lookForRound : GoodIn wsX5_spellBehind (wsV RX5 104 RX5 yX5_lookForRound wsX5_lookForRound) := goodIn_app (goodIn_of _ (by decide +kernel)) ggX5_spellBehind_X5_lookForRound
set_option maxRecDepth 20000 in
theorem ggX5_spellBehind_X0_raisedM : GoodIn wsX5_spellBehind wsX0_raisedM := goodIn_r _ [24, 25, 65, 66] (by decide +kernel) (by decide +kernel)
set_option maxRecDepth 20000 in
theorem gX5_spellBehind_X0_raisedM : GoodIn wsX5_spellBehind (wsV RX5 88 RX0 yX0_raisedM wsX0_raisedM) := goodIn_app (goodIn_of _ (by decide +kernel)) ggX5_spellBehind_X0_raisedM
set_option maxRecDepth 20000 in
theorem ggX5_spellBehind_X0_raisedN : GoodIn wsX5_spellBehind wsX0_raisedN := goodIn_r _ [29, 30, 65, 66] (by decide +kernel) (by decide +kernel)
set_option maxRecDepth 20000 in
theorem gX5_spellBehind_X0_raisedN : GoodIn wsX5_spellBehind (wsV RX5 92 RX0 yX0_raisedN wsX0_raisedN) := goodIn_app (goodIn_of _ (by decide +kernel)) ggX5_spellBehind_X0_raisedN
set_option maxRecDepth 20000 in
theorem ggX5_spellBehind_X5_takeOut : GoodIn wsX5_spellBehind wsX5_takeOut := goodIn_r _ [34, 5, 7, 35, 36, 37, 23, 38, 39, 30, 40, 41, 42, 43, 44, 45, 46, 47, 48, 25, 49, 50, 51, 52, 53, 54, 55, 56, 57, 58, 59, 60, 61, 62, 63, 64, 65, 66] (by decide +kernel) (by decide +kernel)
set_option maxRecDepth 20000 in
theorem gX5_spellBehind_X5_takeOut : GoodIn wsX5_spellBehind (wsV RX5 84 RX5 yX5_takeOut wsX5_takeOut) := goodIn_app (goodIn_of _ (by decide +kernel)) ggX5_spellBehind_X5_takeOut
theorem dX5_spellBehind_0 : decode cX5_spellBehind 0 = .ok (.aload_n 0, 1) := by decide +kernel
theorem dX5_spellBehind_1 : decode cX5_spellBehind 1 = .ok (.iconst 0, 1) := by decide +kernel
theorem dX5_spellBehind_2 : decode cX5_spellBehind 2 = .ok (.putfield 19, 3) := by decide +kernel
theorem dX5_spellBehind_5 : decode cX5_spellBehind 5 = .ok (.aload_n 0, 1) := by decide +kernel
theorem dX5_spellBehind_6 : decode cX5_spellBehind 6 = .ok (.iconst (-1), 1) := by decide +kernel
theorem dX5_spellBehind_7 : decode cX5_spellBehind 7 = .ok (.putfield 26, 3) := by decide +kernel
theorem dX5_spellBehind_10 : decode cX5_spellBehind 10 = .ok (.aload_n 0, 1) := by decide +kernel
theorem dX5_spellBehind_11 : decode cX5_spellBehind 11 = .ok (.iconst (-1), 1) := by decide +kernel
theorem dX5_spellBehind_12 : decode cX5_spellBehind 12 = .ok (.putfield 29, 3) := by decide +kernel
theorem dX5_spellBehind_15 : decode cX5_spellBehind 15 = .ok (.iconst 0, 1) := by decide +kernel
theorem dX5_spellBehind_16 : decode cX5_spellBehind 16 = .ok (.istore_n 2, 1) := by decide +kernel
theorem dX5_spellBehind_17 : decode cX5_spellBehind 17 = .ok (.iload_n 2, 1) := by decide +kernel
theorem dX5_spellBehind_18 : decode cX5_spellBehind 18 = .ok (.bipush 40, 2) := by decide +kernel
theorem dX5_spellBehind_20 : decode cX5_spellBehind 20 = .ok (.if_icmp .ge 100, 3) := by decide +kernel
theorem dX5_spellBehind_23 : decode cX5_spellBehind 23 = .ok (.aload_n 0, 1) := by decide +kernel
theorem dX5_spellBehind_24 : decode cX5_spellBehind 24 = .ok (.invokevirtual 100, 3) := by decide +kernel
theorem dX5_spellBehind_27 : decode cX5_spellBehind 27 = .ok (.ifCond .eq 93, 3) := by decide +kernel
theorem dX5_spellBehind_30 : decode cX5_spellBehind 30 = .ok (.aload_n 0, 1) := by decide +kernel
theorem dX5_spellBehind_31 : decode cX5_spellBehind 31 = .ok (.iload_n 2, 1) := by decide +kernel
theorem dX5_spellBehind_32 : decode cX5_spellBehind 32 = .ok (.invokevirtual 104, 3) := by decide +kernel
theorem dX5_spellBehind_35 : decode cX5_spellBehind 35 = .ok (.aload_n 0, 1) := by decide +kernel
theorem dX5_spellBehind_36 : decode cX5_spellBehind 36 = .ok (.getfield 39, 3) := by decide +kernel
theorem dX5_spellBehind_39 : decode cX5_spellBehind 39 = .ok (.iload_n 2, 1) := by decide +kernel
theorem dX5_spellBehind_40 : decode cX5_spellBehind 40 = .ok (.aload_n 0, 1) := by decide +kernel
theorem dX5_spellBehind_41 : decode cX5_spellBehind 41 = .ok (.getfield 45, 3) := by decide +kernel
theorem dX5_spellBehind_44 : decode cX5_spellBehind 44 = .ok (.lastore, 1) := by decide +kernel
theorem dX5_spellBehind_45 : decode cX5_spellBehind 45 = .ok (.aload_n 0, 1) := by decide +kernel
theorem dX5_spellBehind_46 : decode cX5_spellBehind 46 = .ok (.getfield 42, 3) := by decide +kernel
theorem dX5_spellBehind_49 : decode cX5_spellBehind 49 = .ok (.iload_n 2, 1) := by decide +kernel
theorem dX5_spellBehind_50 : decode cX5_spellBehind 50 = .ok (.aload_n 0, 1) := by decide +kernel
theorem dX5_spellBehind_51 : decode cX5_spellBehind 51 = .ok (.getfield 49, 3) := by decide +kernel
theorem dX5_spellBehind_54 : decode cX5_spellBehind 54 = .ok (.lastore, 1) := by decide +kernel
theorem dX5_spellBehind_55 : decode cX5_spellBehind 55 = .ok (.aload_n 0, 1) := by decide +kernel
theorem dX5_spellBehind_56 : decode cX5_spellBehind 56 = .ok (.aload_n 1, 1) := by decide +kernel
theorem dX5_spellBehind_57 : decode cX5_spellBehind 57 = .ok (.aload_n 0, 1) := by decide +kernel
theorem dX5_spellBehind_58 : decode cX5_spellBehind 58 = .ok (.getfield 42, 3) := by decide +kernel
theorem dX5_spellBehind_61 : decode cX5_spellBehind 61 = .ok (.iload_n 2, 1) := by decide +kernel
theorem dX5_spellBehind_62 : decode cX5_spellBehind 62 = .ok (.laload, 1) := by decide +kernel
theorem dX5_spellBehind_63 : decode cX5_spellBehind 63 = .ok (.invokevirtual 88, 3) := by decide +kernel
theorem dX5_spellBehind_66 : decode cX5_spellBehind 66 = .ok (.putfield 45, 3) := by decide +kernel
theorem dX5_spellBehind_69 : decode cX5_spellBehind 69 = .ok (.aload_n 0, 1) := by decide +kernel
theorem dX5_spellBehind_70 : decode cX5_spellBehind 70 = .ok (.aload_n 1, 1) := by decide +kernel
theorem dX5_spellBehind_71 : decode cX5_spellBehind 71 = .ok (.aload_n 0, 1) := by decide +kernel
theorem dX5_spellBehind_72 : decode cX5_spellBehind 72 = .ok (.getfield 39, 3) := by decide +kernel
theorem dX5_spellBehind_75 : decode cX5_spellBehind 75 = .ok (.iload_n 2, 1) := by decide +kernel
theorem dX5_spellBehind_76 : decode cX5_spellBehind 76 = .ok (.laload, 1) := by decide +kernel
theorem dX5_spellBehind_77 : decode cX5_spellBehind 77 = .ok (.aload_n 0, 1) := by decide +kernel
theorem dX5_spellBehind_78 : decode cX5_spellBehind 78 = .ok (.getfield 42, 3) := by decide +kernel
theorem dX5_spellBehind_81 : decode cX5_spellBehind 81 = .ok (.iload_n 2, 1) := by decide +kernel
theorem dX5_spellBehind_82 : decode cX5_spellBehind 82 = .ok (.laload, 1) := by decide +kernel
theorem dX5_spellBehind_83 : decode cX5_spellBehind 83 = .ok (.invokevirtual 92, 3) := by decide +kernel
theorem dX5_spellBehind_86 : decode cX5_spellBehind 86 = .ok (.putfield 49, 3) := by decide +kernel
theorem dX5_spellBehind_89 : decode cX5_spellBehind 89 = .ok (.aload_n 0, 1) := by decide +kernel
theorem dX5_spellBehind_90 : decode cX5_spellBehind 90 = .ok (.getfield 9, 3) := by decide +kernel
theorem dX5_spellBehind_93 : decode cX5_spellBehind 93 = .ok (.aload_n 0, 1) := by decide +kernel
theorem dX5_spellBehind_94 : decode cX5_spellBehind 94 = .ok (.getfield 15, 3) := by decide +kernel
theorem dX5_spellBehind_97 : decode cX5_spellBehind 97 = .ok (.iload_n 2, 1) := by decide +kernel
theorem dX5_spellBehind_98 : decode cX5_spellBehind 98 = .ok (.iadd, 1) := by decide +kernel
theorem dX5_spellBehind_99 : decode cX5_spellBehind 99 = .ok (.aload_n 0, 1) := by decide +kernel
theorem dX5_spellBehind_100 : decode cX5_spellBehind 100 = .ok (.aload_n 1, 1) := by decide +kernel
theorem dX5_spellBehind_101 : decode cX5_spellBehind 101 = .ok (.lconst 1, 1) := by decide +kernel
theorem dX5_spellBehind_102 : decode cX5_spellBehind 102 = .ok (.lconst 0, 1) := by decide +kernel
theorem dX5_spellBehind_103 : decode cX5_spellBehind 103 = .ok (.invokevirtual 84, 3) := by decide +kernel
theorem dX5_spellBehind_106 : decode cX5_spellBehind 106 = .ok (.iastore, 1) := by decide +kernel
theorem dX5_spellBehind_107 : decode cX5_spellBehind 107 = .ok (.aload_n 0, 1) := by decide +kernel
theorem dX5_spellBehind_108 : decode cX5_spellBehind 108 = .ok (.iload_n 2, 1) := by decide +kernel
theorem dX5_spellBehind_109 : decode cX5_spellBehind 109 = .ok (.iconst 1, 1) := by decide +kernel
theorem dX5_spellBehind_110 : decode cX5_spellBehind 110 = .ok (.iadd, 1) := by decide +kernel
theorem dX5_spellBehind_111 : decode cX5_spellBehind 111 = .ok (.putfield 19, 3) := by decide +kernel
theorem dX5_spellBehind_114 : decode cX5_spellBehind 114 = .ok (.iinc 2 1, 3) := by decide +kernel
theorem dX5_spellBehind_117 : decode cX5_spellBehind 117 = .ok (.goto (-100), 3) := by decide +kernel
theorem dX5_spellBehind_120 : decode cX5_spellBehind 120 = .ok (.aload_n 0, 1) := by decide +kernel
theorem dX5_spellBehind_121 : decode cX5_spellBehind 121 = .ok (.aload_n 0, 1) := by decide +kernel
theorem dX5_spellBehind_122 : decode cX5_spellBehind 122 = .ok (.invokevirtual 100, 3) := by decide +kernel
theorem dX5_spellBehind_125 : decode cX5_spellBehind 125 = .ok (.ifCond .ne 7, 3) := by decide +kernel
theorem dX5_spellBehind_128 : decode cX5_spellBehind 128 = .ok (.iconst 1, 1) := by decide +kernel
theorem dX5_spellBehind_129 : decode cX5_spellBehind 129 = .ok (.goto 4, 3) := by decide +kernel
theorem dX5_spellBehind_132 : decode cX5_spellBehind 132 = .ok (.iconst 0, 1) := by decide +kernel
theorem dX5_spellBehind_133 : decode cX5_spellBehind 133 = .ok (.putfield 22, 3) := by decide +kernel
theorem dX5_spellBehind_136 : decode cX5_spellBehind 136 = .ok (.aload_n 0, 1) := by decide +kernel
theorem dX5_spellBehind_137 : decode cX5_spellBehind 137 = .ok (.getfield 22, 3) := by decide +kernel
theorem dX5_spellBehind_140 : decode cX5_spellBehind 140 = .ok (.ifCond .ne 9, 3) := by decide +kernel
theorem dX5_spellBehind_143 : decode cX5_spellBehind 143 = .ok (.aload_n 0, 1) := by decide +kernel
theorem dX5_spellBehind_144 : decode cX5_spellBehind 144 = .ok (.bipush 40, 2) := by decide +kernel
theorem dX5_spellBehind_146 : decode cX5_spellBehind 146 = .ok (.invokevirtual 104, 3) := by decide +kernel
theorem dX5_spellBehind_149 : decode cX5_spellBehind 149 = .ok (.return_, 1) := by decide +kernel
theorem dX5_isAnythingLeft_0 : decode cX5_isAnythingLeft 0 = .ok (.aload_n 0, 1) := by decide +kernel
theorem dX5_isAnythingLeft_1 : decode cX5_isAnythingLeft 1 = .ok (.getfield 45, 3) := by decide +kernel
theorem dX5_isAnythingLeft_4 : decode cX5_isAnythingLeft 4 = .ok (.lconst 0, 1) := by decide +kernel
theorem dX5_isAnythingLeft_5 : decode cX5_isAnythingLeft 5 = .ok (.lcmp, 1) := by decide +kernel
theorem dX5_isAnythingLeft_6 : decode cX5_isAnythingLeft 6 = .ok (.ifCond .ne 12, 3) := by decide +kernel
theorem dX5_isAnythingLeft_9 : decode cX5_isAnythingLeft 9 = .ok (.aload_n 0, 1) := by decide +kernel
theorem dX5_isAnythingLeft_10 : decode cX5_isAnythingLeft 10 = .ok (.getfield 49, 3) := by decide +kernel
theorem dX5_isAnythingLeft_13 : decode cX5_isAnythingLeft 13 = .ok (.lconst 0, 1) := by decide +kernel
theorem dX5_isAnythingLeft_14 : decode cX5_isAnythingLeft 14 = .ok (.lcmp, 1) := by decide +kernel
theorem dX5_isAnythingLeft_15 : decode cX5_isAnythingLeft 15 = .ok (.ifCond .eq 7, 3) := by decide +kernel
theorem dX5_isAnythingLeft_18 : decode cX5_isAnythingLeft 18 = .ok (.iconst 1, 1) := by decide +kernel
theorem dX5_isAnythingLeft_19 : decode cX5_isAnythingLeft 19 = .ok (.goto 4, 3) := by decide +kernel
theorem dX5_isAnythingLeft_22 : decode cX5_isAnythingLeft 22 = .ok (.iconst 0, 1) := by decide +kernel
theorem dX5_isAnythingLeft_23 : decode cX5_isAnythingLeft 23 = .ok (.ireturn, 1) := by decide +kernel
theorem dX5_lookForRound_0 : decode cX5_lookForRound 0 = .ok (.aload_n 0, 1) := by decide +kernel
theorem dX5_lookForRound_1 : decode cX5_lookForRound 1 = .ok (.getfield 29, 3) := by decide +kernel
theorem dX5_lookForRound_4 : decode cX5_lookForRound 4 = .ok (.iconst (-1), 1) := by decide +kernel
theorem dX5_lookForRound_5 : decode cX5_lookForRound 5 = .ok (.if_icmp .eq 4, 3) := by decide +kernel
theorem dX5_lookForRound_8 : decode cX5_lookForRound 8 = .ok (.return_, 1) := by decide +kernel
theorem dX5_lookForRound_9 : decode cX5_lookForRound 9 = .ok (.iconst 0, 1) := by decide +kernel
theorem dX5_lookForRound_10 : decode cX5_lookForRound 10 = .ok (.istore_n 2, 1) := by decide +kernel
theorem dX5_lookForRound_11 : decode cX5_lookForRound 11 = .ok (.iload_n 2, 1) := by decide +kernel
theorem dX5_lookForRound_12 : decode cX5_lookForRound 12 = .ok (.iload_n 1, 1) := by decide +kernel
theorem dX5_lookForRound_13 : decode cX5_lookForRound 13 = .ok (.if_icmp .ge 50, 3) := by decide +kernel
theorem dX5_lookForRound_16 : decode cX5_lookForRound 16 = .ok (.aload_n 0, 1) := by decide +kernel
theorem dX5_lookForRound_17 : decode cX5_lookForRound 17 = .ok (.getfield 39, 3) := by decide +kernel
theorem dX5_lookForRound_20 : decode cX5_lookForRound 20 = .ok (.iload_n 2, 1) := by decide +kernel
theorem dX5_lookForRound_21 : decode cX5_lookForRound 21 = .ok (.laload, 1) := by decide +kernel
theorem dX5_lookForRound_22 : decode cX5_lookForRound 22 = .ok (.aload_n 0, 1) := by decide +kernel
theorem dX5_lookForRound_23 : decode cX5_lookForRound 23 = .ok (.getfield 45, 3) := by decide +kernel
theorem dX5_lookForRound_26 : decode cX5_lookForRound 26 = .ok (.lcmp, 1) := by decide +kernel
theorem dX5_lookForRound_27 : decode cX5_lookForRound 27 = .ok (.ifCond .ne 30, 3) := by decide +kernel
theorem dX5_lookForRound_30 : decode cX5_lookForRound 30 = .ok (.aload_n 0, 1) := by decide +kernel
theorem dX5_lookForRound_31 : decode cX5_lookForRound 31 = .ok (.getfield 42, 3) := by decide +kernel
theorem dX5_lookForRound_34 : decode cX5_lookForRound 34 = .ok (.iload_n 2, 1) := by decide +kernel
theorem dX5_lookForRound_35 : decode cX5_lookForRound 35 = .ok (.laload, 1) := by decide +kernel
theorem dX5_lookForRound_36 : decode cX5_lookForRound 36 = .ok (.aload_n 0, 1) := by decide +kernel
theorem dX5_lookForRound_37 : decode cX5_lookForRound 37 = .ok (.getfield 49, 3) := by decide +kernel
theorem dX5_lookForRound_40 : decode cX5_lookForRound 40 = .ok (.lcmp, 1) := by decide +kernel
theorem dX5_lookForRound_41 : decode cX5_lookForRound 41 = .ok (.ifCond .ne 16, 3) := by decide +kernel
theorem dX5_lookForRound_44 : decode cX5_lookForRound 44 = .ok (.aload_n 0, 1) := by decide +kernel
theorem dX5_lookForRound_45 : decode cX5_lookForRound 45 = .ok (.iload_n 2, 1) := by decide +kernel
theorem dX5_lookForRound_46 : decode cX5_lookForRound 46 = .ok (.putfield 26, 3) := by decide +kernel
theorem dX5_lookForRound_49 : decode cX5_lookForRound 49 = .ok (.aload_n 0, 1) := by decide +kernel
theorem dX5_lookForRound_50 : decode cX5_lookForRound 50 = .ok (.iload_n 1, 1) := by decide +kernel
theorem dX5_lookForRound_51 : decode cX5_lookForRound 51 = .ok (.iload_n 2, 1) := by decide +kernel
theorem dX5_lookForRound_52 : decode cX5_lookForRound 52 = .ok (.isub, 1) := by decide +kernel
theorem dX5_lookForRound_53 : decode cX5_lookForRound 53 = .ok (.putfield 29, 3) := by decide +kernel
theorem dX5_lookForRound_56 : decode cX5_lookForRound 56 = .ok (.return_, 1) := by decide +kernel
theorem dX5_lookForRound_57 : decode cX5_lookForRound 57 = .ok (.iinc 2 1, 3) := by decide +kernel
theorem dX5_lookForRound_60 : decode cX5_lookForRound 60 = .ok (.goto (-49), 3) := by decide +kernel
theorem dX5_lookForRound_63 : decode cX5_lookForRound 63 = .ok (.return_, 1) := by decide +kernel
set_option maxRecDepth 20000 in
theorem ggX5_takeOut_X0_sign : GoodIn wsX5_takeOut wsX0_sign := goodIn_r _ [7, 8, 9, 10, 11, 12, 13, 14, 15, 16, 6, 17, 18, 19, 36, 37] (by decide +kernel) (by decide +kernel)
set_option maxRecDepth 20000 in
theorem gX5_takeOut_X0_sign : GoodIn wsX5_takeOut (wsV RX5 96 RX0 yX0_sign wsX0_sign) := goodIn_app (goodIn_of _ (by decide +kernel)) ggX5_takeOut_X0_sign
theorem dX5_takeOut_0 : decode cX5_takeOut 0 = .ok (.iconst 0, 1) := by decide +kernel
theorem dX5_takeOut_1 : decode cX5_takeOut 1 = .ok (.istore 6, 2) := by decide +kernel
theorem dX5_takeOut_3 : decode cX5_takeOut 3 = .ok (.iload 6, 2) := by decide +kernel
theorem dX5_takeOut_5 : decode cX5_takeOut 5 = .ok (.bipush 9, 2) := by decide +kernel
theorem dX5_takeOut_7 : decode cX5_takeOut 7 = .ok (.if_icmp .ge 50, 3) := by decide +kernel
theorem dX5_takeOut_10 : decode cX5_takeOut 10 = .ok (.aload_n 1, 1) := by decide +kernel
theorem dX5_takeOut_11 : decode cX5_takeOut 11 = .ok (.aload_n 0, 1) := by decide +kernel
theorem dX5_takeOut_12 : decode cX5_takeOut 12 = .ok (.getfield 45, 3) := by decide +kernel
theorem dX5_takeOut_15 : decode cX5_takeOut 15 = .ok (.lload_n 2, 1) := by decide +kernel
theorem dX5_takeOut_16 : decode cX5_takeOut 16 = .ok (.lsub, 1) := by decide +kernel
theorem dX5_takeOut_17 : decode cX5_takeOut 17 = .ok (.aload_n 0, 1) := by decide +kernel
theorem dX5_takeOut_18 : decode cX5_takeOut 18 = .ok (.getfield 49, 3) := by decide +kernel
theorem dX5_takeOut_21 : decode cX5_takeOut 21 = .ok (.lload 4, 2) := by decide +kernel
theorem dX5_takeOut_23 : decode cX5_takeOut 23 = .ok (.lsub, 1) := by decide +kernel
theorem dX5_takeOut_24 : decode cX5_takeOut 24 = .ok (.invokevirtual 96, 3) := by decide +kernel
theorem dX5_takeOut_27 : decode cX5_takeOut 27 = .ok (.ifCond .lt 30, 3) := by decide +kernel
theorem dX5_takeOut_30 : decode cX5_takeOut 30 = .ok (.aload_n 0, 1) := by decide +kernel
theorem dX5_takeOut_31 : decode cX5_takeOut 31 = .ok (.dup, 1) := by decide +kernel
theorem dX5_takeOut_32 : decode cX5_takeOut 32 = .ok (.getfield 45, 3) := by decide +kernel
theorem dX5_takeOut_35 : decode cX5_takeOut 35 = .ok (.lload_n 2, 1) := by decide +kernel
theorem dX5_takeOut_36 : decode cX5_takeOut 36 = .ok (.lsub, 1) := by decide +kernel
theorem dX5_takeOut_37 : decode cX5_takeOut 37 = .ok (.putfield 45, 3) := by decide +kernel
theorem dX5_takeOut_40 : decode cX5_takeOut 40 = .ok (.aload_n 0, 1) := by decide +kernel
theorem dX5_takeOut_41 : decode cX5_takeOut 41 = .ok (.dup, 1) := by decide +kernel
theorem dX5_takeOut_42 : decode cX5_takeOut 42 = .ok (.getfield 49, 3) := by decide +kernel
theorem dX5_takeOut_45 : decode cX5_takeOut 45 = .ok (.lload 4, 2) := by decide +kernel
theorem dX5_takeOut_47 : decode cX5_takeOut 47 = .ok (.lsub, 1) := by decide +kernel
theorem dX5_takeOut_48 : decode cX5_takeOut 48 = .ok (.putfield 49, 3) := by decide +kernel
theorem dX5_takeOut_51 : decode cX5_takeOut 51 = .ok (.iinc 6 1, 3) := by decide +kernel
theorem dX5_takeOut_54 : decode cX5_takeOut 54 = .ok (.goto (-51), 3) := by decide +kernel
theorem dX5_takeOut_57 : decode cX5_takeOut 57 = .ok (.iload 6, 2) := by decide +kernel
theorem dX5_takeOut_59 : decode cX5_takeOut 59 = .ok (.ireturn, 1) := by decide +kernel
set_option maxRecDepth 20000 in
theorem ggX6_init_X3_init : GoodIn wsX6_init wsX3_init := goodIn_r _ [25, 26, 2, 3, 27, 28, 29, 30, 31, 32, 33, 34, 35, 36, 37, 38, 115, 116, 80, 81, 82] (by decide +kernel) (by decide +kernel)
set_option maxRecDepth 20000 in
theorem gX6_init_X3_init_n11 : GoodIn wsX6_init (wsX3_init) := ggX6_init_X3_init
set_option maxRecDepth 20000 in
theorem ggX6_init_X1_init : GoodIn wsX6_init wsX1_init := goodIn_r _ [40, 41, 2, 3, 31, 42, 43, 44, 88, 89, 90] (by decide +kernel) (by decide +kernel)
set_option maxRecDepth 20000 in
theorem gX6_init_X1_init_n18 : GoodIn wsX6_init (wsX1_init) := ggX6_init_X1_init
set_option maxRecDepth 20000 in
theorem ggX6_init_X2_init : GoodIn wsX6_init wsX2_init := goodIn_r _ [46, 47, 2, 3, 31, 48, 49, 50, 91, 92] (by decide +kernel) (by decide +kernel)
set_option maxRecDepth 20000 in
theorem gX6_init_X2_init_n25 : GoodIn wsX6_init (wsX2_init) := ggX6_init_X2_init
set_option maxRecDepth 20000 in
theorem ggX6_init_X4_init : GoodIn wsX6_init wsX4_init := goodIn_r _ [52, 53, 2, 3, 31, 54, 55, 56, 57, 58, 59, 93, 94, 95, 96, 97, 98] (by decide +kernel) (by decide +kernel)
set_option maxRecDepth 20000 in
theorem gX6_init_X4_init_n32 : GoodIn wsX6_init (wsX4_init) := ggX6_init_X4_init
set_option maxRecDepth 20000 in
theorem ggX6_init_X5_init : GoodIn wsX6_init wsX5_init := goodIn_r _ [61, 62, 2, 3, 31, 63, 64, 65, 66, 67, 68, 69, 70, 71, 72, 73, 74, 75, 76, 77, 78, 79, 99, 100, 101, 102, 103, 104, 105, 106, 107, 108, 109, 110, 111, 112, 113, 114] (by decide +kernel) (by decide +kernel)
set_option maxRecDepth 20000 in
theorem gX6_init_X5_init_n39 : GoodIn wsX6_init (wsX5_init) := ggX6_init_X5_init
