/-! ===== BEGIN words of one list among another's, by their places ===== -/
theorem goodIn_r {big : List Cond} (ws : List Cond) (ps : List Nat) (hp : ws = ps.filterMap (fun i => big[i]?)) (h : ws.all goodWord = true) : GoodIn big ws := by
  intro w hw
  have h1 := List.all_eq_true.mp h w hw
  rw [hp] at hw
  obtain ⟨i, -, hi⟩ := List.mem_filterMap.mp hw
  have hm : w ∈ big := by first | exact List.mem_of_getElem? hi | exact List.getElem?_mem hi
  exact ⟨hm, good_of_word h1⟩
theorem goodIn_app {big a b : List Cond} (ha : GoodIn big a) (hb : GoodIn big b) : GoodIn big (a ++ b) := fun w h => (List.mem_append.mp h).elim (ha w) (hb w)
theorem goodIn_ca {big a b : List Cond} {c : Cond} (ha : GoodIn big (c :: a)) (hb : GoodIn big b) : GoodIn big (c :: (a ++ b)) := fun w h => (List.mem_cons.mp h).elim (fun e => ha w (List.mem_cons.mpr (Or.inl e))) (fun h => (List.mem_append.mp h).elim (fun h => ha w (List.mem_cons.mpr (Or.inr h))) (hb w))
theorem goodIn_sub {big ws : List Cond} (hm : ∀ w ∈ ws, w ∈ big) (h : ws.all goodWord = true) : GoodIn big ws := fun w hw => ⟨hm w hw, good_of_word (List.all_eq_true.mp h w hw)⟩
/-! ===== END ===== -/

/-! ===== BEGIN printed: names, fields, word lists, decode rows ===== -/
def RX0 : String := "UnderTerms$Book"
def TX0 : u_T := fun k => match k with
  | 0 => ("UnderTerms$Book", "asks", "[I", true)
  | 1 => ("UnderTerms$Book", "reach", "[I", true)
  | 2 => ("UnderTerms$Book", "go", "[I", true)
  | 3 => ("UnderTerms$Book", "later", "[I", true)
  | 4 => ("UnderTerms$Book", "offered", "[I", true)
  | 5 => ("UnderTerms$Book", "orLater", "[I", true)
  | 6 => ("UnderTerms$Book", "owners", "[I", true)
  | 7 => ("UnderTerms$Book", "anew", "[I", true)
  | 8 => ("UnderTerms$Book", "kinds", "[I", true)
  | 9 => ("UnderTerms$Book", "whole", "I", false)
  | _ => ("UnderTerms$Book", "coin", "I", false)
def tyX0 : Nat → FieldType := fun k => match k with
  | 0 => .array .int
  | 1 => .array .int
  | 2 => .array .int
  | 3 => .array .int
  | 4 => .array .int
  | 5 => .array .int
  | 6 => .array .int
  | 7 => .array .int
  | 8 => .array .int
  | 9 => .int
  | _ => .int
abbrev wsX00 : List Cond := u_ws RX0 TX0 11
theorem nmX0 : ∀ a, a < 11 → ∀ b, b < 11 → a ≠ b → (TX0 a).2.1 ≠ (TX0 b).2.1 := by decide +kernel
theorem tyX0_ok : ∀ k, k < 11 → parseFieldDescriptor (TX0 k).2.2.1 = some (tyX0 k) := by decide +kernel
abbrev cX0_init : ByteArray := prog_2_method_1_code
def yX0_init : MethodName := ⟨RX0, "<init>", "()V"⟩
abbrev cX0_takeFrom : ByteArray := prog_2_method_2_code
def yX0_takeFrom : MethodName := ⟨RX0, "takeFrom", "(LUnderTerms$Book;)V"⟩
abbrev cX0_choicesOf : ByteArray := prog_2_method_3_code
def yX0_choicesOf : MethodName := ⟨RX0, "choicesOf", "(I)I"⟩
def RX1 : String := "UnderTerms$Chosen"
def TX1 : u_T := fun k => match k with
  | 0 => ("UnderTerms$Chosen", "terms", "[I", true)
  | 1 => ("UnderTerms$Chosen", "musts", "I", false)
  | _ => ("UnderTerms$Chosen", "mayGo", "I", false)
def tyX1 : Nat → FieldType := fun k => match k with
  | 0 => .array .int
  | 1 => .int
  | _ => .int
abbrev wsX10 : List Cond := u_ws RX1 TX1 3
theorem nmX1 : ∀ a, a < 3 → ∀ b, b < 3 → a ≠ b → (TX1 a).2.1 ≠ (TX1 b).2.1 := by decide +kernel
theorem tyX1_ok : ∀ k, k < 3 → parseFieldDescriptor (TX1 k).2.2.1 = some (tyX1 k) := by decide +kernel
abbrev cX1_init : ByteArray := prog_3_method_1_code
def yX1_init : MethodName := ⟨RX1, "<init>", "()V"⟩
def RX2 : String := "UnderTerms$Pad"
def TX2 : u_T := fun k => match k with
  | 0 => ("UnderTerms$Pad", "signs", "[I", true)
  | 1 => ("UnderTerms$Pad", "count", "I", false)
  | 2 => ("UnderTerms$Pad", "asks", "I", false)
  | 3 => ("UnderTerms$Pad", "reach", "I", false)
  | _ => ("UnderTerms$Pad", "go", "I", false)
def tyX2 : Nat → FieldType := fun k => match k with
  | 0 => .array .int
  | 1 => .int
  | 2 => .int
  | 3 => .int
  | _ => .int
abbrev wsX20 : List Cond := u_ws RX2 TX2 5
theorem nmX2 : ∀ a, a < 5 → ∀ b, b < 5 → a ≠ b → (TX2 a).2.1 ≠ (TX2 b).2.1 := by decide +kernel
theorem tyX2_ok : ∀ k, k < 5 → parseFieldDescriptor (TX2 k).2.2.1 = some (tyX2 k) := by decide +kernel
abbrev cX2_init : ByteArray := prog_4_method_1_code
def yX2_init : MethodName := ⟨RX2, "<init>", "()V"⟩
abbrev cX2_put : ByteArray := prog_4_method_2_code
def yX2_put : MethodName := ⟨RX2, "put", "(I)V"⟩
abbrev cX2_read : ByteArray := prog_4_method_3_code
def yX2_read : MethodName := ⟨RX2, "read", "()I"⟩
abbrev cX2_readAsks : ByteArray := prog_4_method_4_code
def yX2_readAsks : MethodName := ⟨RX2, "readAsks", "()I"⟩
abbrev cX2_readGo : ByteArray := prog_4_method_5_code
def yX2_readGo : MethodName := ⟨RX2, "readGo", "(I)I"⟩
abbrev cX2_askOf : ByteArray := prog_4_method_6_code
def yX2_askOf : MethodName := ⟨RX2, "askOf", "(I)I"⟩
def RX3 : String := "UnderTerms$Web"
def TX3 : u_T := fun k => match k with
  | 0 => ("UnderTerms$Web", "book", "LUnderTerms$Book;", true)
  | 1 => ("UnderTerms$Web", "choices", "[I", true)
  | 2 => ("UnderTerms$Web", "longest", "[I", true)
  | 3 => ("UnderTerms$Web", "ways", "[I", true)
  | 4 => ("UnderTerms$Web", "members", "I", false)
  | 5 => ("UnderTerms$Web", "parts", "I", false)
  | 6 => ("UnderTerms$Web", "kinds", "[I", true)
  | 7 => ("UnderTerms$Web", "goes", "[I", true)
  | 8 => ("UnderTerms$Web", "asks", "[I", true)
  | 9 => ("UnderTerms$Web", "reached", "[I", true)
  | 10 => ("UnderTerms$Web", "lets", "[I", true)
  | 11 => ("UnderTerms$Web", "counts", "[I", false)
  | _ => ("UnderTerms$Web", "nextCounts", "[I", false)
def tyX3 : Nat → FieldType := fun k => match k with
  | 0 => .object "UnderTerms$Book"
  | 1 => .array .int
  | 2 => .array .int
  | 3 => .array .int
  | 4 => .int
  | 5 => .int
  | 6 => .array .int
  | 7 => .array .int
  | 8 => .array .int
  | 9 => .array .int
  | 10 => .array .int
  | 11 => .array .int
  | _ => .array .int
abbrev wsX30 : List Cond := u_ws RX3 TX3 13
theorem nmX3 : ∀ a, a < 13 → ∀ b, b < 13 → a ≠ b → (TX3 a).2.1 ≠ (TX3 b).2.1 := by decide +kernel
theorem tyX3_ok : ∀ k, k < 13 → parseFieldDescriptor (TX3 k).2.2.1 = some (tyX3 k) := by decide +kernel
abbrev cX3_init : ByteArray := prog_5_method_1_code
def yX3_init : MethodName := ⟨RX3, "<init>", "(LUnderTerms$Book;)V"⟩
abbrev cX3_spin : ByteArray := prog_5_method_2_code
def yX3_spin : MethodName := ⟨RX3, "spin", "()V"⟩
abbrev cX3_tie : ByteArray := prog_5_method_3_code
def yX3_tie : MethodName := ⟨RX3, "tie", "(II)V"⟩
abbrev cX3_loosen : ByteArray := prog_5_method_4_code
def yX3_loosen : MethodName := ⟨RX3, "loosen", "(II)I"⟩
abbrev cX3_spread : ByteArray := prog_5_method_5_code
def yX3_spread : MethodName := ⟨RX3, "spread", "()V"⟩
abbrev cX3_reachedBy : ByteArray := prog_5_method_6_code
def yX3_reachedBy : MethodName := ⟨RX3, "reachedBy", "(I)I"⟩
abbrev cX3_reaches : ByteArray := prog_5_method_7_code
def yX3_reaches : MethodName := ⟨RX3, "reaches", "(II)Z"⟩
abbrev cX3_offer : ByteArray := prog_5_method_8_code
def yX3_offer : MethodName := ⟨RX3, "offer", "(II)I"⟩
abbrev cX3_askedBy : ByteArray := prog_5_method_9_code
def yX3_askedBy : MethodName := ⟨RX3, "askedBy", "(I)I"⟩
abbrev cX3_reachingBy : ByteArray := prog_5_method_10_code
def yX3_reachingBy : MethodName := ⟨RX3, "reachingBy", "([I)I"⟩
abbrev cX3_mustsBy : ByteArray := prog_5_method_11_code
def yX3_mustsBy : MethodName := ⟨RX3, "mustsBy", "([II)I"⟩
abbrev cX3_mayGoBy : ByteArray := prog_5_method_12_code
def yX3_mayGoBy : MethodName := ⟨RX3, "mayGoBy", "([I)I"⟩
abbrev cX3_someGoodWith : ByteArray := prog_5_method_13_code
def yX3_someGoodWith : MethodName := ⟨RX3, "someGoodWith", "(I)Z"⟩
abbrev cX3_room : ByteArray := prog_5_method_14_code
def yX3_room : MethodName := ⟨RX3, "room", "(II)I"⟩
abbrev cX3_letsOf : ByteArray := prog_5_method_15_code
def yX3_letsOf : MethodName := ⟨RX3, "letsOf", "(II)I"⟩
abbrev cX3_mayChoose : ByteArray := prog_5_method_16_code
def yX3_mayChoose : MethodName := ⟨RX3, "mayChoose", "(III)Z"⟩
abbrev cX3_roomLeft : ByteArray := prog_5_method_17_code
def yX3_roomLeft : MethodName := ⟨RX3, "roomLeft", "()I"⟩
abbrev cX3_findBest : ByteArray := prog_5_method_18_code
def yX3_findBest : MethodName := ⟨RX3, "findBest", "(ILUnderTerms$Chosen;)Z"⟩
abbrev cX3_leastMusts : ByteArray := prog_5_method_19_code
def yX3_leastMusts : MethodName := ⟨RX3, "leastMusts", "(I)I"⟩
abbrev cX3_settle : ByteArray := prog_5_method_20_code
def yX3_settle : MethodName := ⟨RX3, "settle", "(II)I"⟩
abbrev cX3_countGood : ByteArray := prog_5_method_21_code
def yX3_countGood : MethodName := ⟨RX3, "countGood", "()I"⟩
abbrev cX3_countWith : ByteArray := prog_5_method_22_code
def yX3_countWith : MethodName := ⟨RX3, "countWith", "(I)V"⟩
abbrev cX3_walk : ByteArray := prog_5_method_23_code
def yX3_walk : MethodName := ⟨RX3, "walk", "()V"⟩
def RX4 : String := "UnderTerms"
def TX4 : u_T := fun k => match k with
  | 0 => ("UnderTerms", "pad", "LUnderTerms$Pad;", true)
  | 1 => ("UnderTerms", "book", "LUnderTerms$Book;", true)
  | 2 => ("UnderTerms", "web", "LUnderTerms$Web;", true)
  | 3 => ("UnderTerms", "taken", "LUnderTerms$Chosen;", true)
  | 4 => ("UnderTerms", "images", "[LUnderTerms$Book;", true)
  | 5 => ("UnderTerms", "kept", "[Z", true)
  | _ => ("UnderTerms", "named", "[I", true)
def tyX4 : Nat → FieldType := fun k => match k with
  | 0 => .object "UnderTerms$Pad"
  | 1 => .object "UnderTerms$Book"
  | 2 => .object "UnderTerms$Web"
  | 3 => .object "UnderTerms$Chosen"
  | 4 => .array (.object "UnderTerms$Book")
  | 5 => .array .boolean
  | _ => .array .int
abbrev wsX40 : List Cond := u_ws RX4 TX4 7
theorem nmX4 : ∀ a, a < 7 → ∀ b, b < 7 → a ≠ b → (TX4 a).2.1 ≠ (TX4 b).2.1 := by decide +kernel
theorem tyX4_ok : ∀ k, k < 7 → parseFieldDescriptor (TX4 k).2.2.1 = some (tyX4 k) := by decide +kernel
abbrev cX4_init : ByteArray := prog_1_method_1_code
def yX4_init : MethodName := ⟨RX4, "<init>", "()V"⟩
abbrev cX4_say : ByteArray := prog_1_method_2_code
def yX4_say : MethodName := ⟨RX4, "say", "(I)I"⟩
abbrev cX4_wipe : ByteArray := prog_1_method_3_code
def yX4_wipe : MethodName := ⟨RX4, "wipe", "()I"⟩
abbrev cX4_fault : ByteArray := prog_1_method_4_code
def yX4_fault : MethodName := ⟨RX4, "fault", "()I"⟩
abbrev cX4_terms : ByteArray := prog_1_method_5_code
def yX4_terms : MethodName := ⟨RX4, "terms", "(I)I"⟩
abbrev cX4_about : ByteArray := prog_1_method_6_code
def yX4_about : MethodName := ⟨RX4, "about", "(II)I"⟩
abbrev cX4_later : ByteArray := prog_1_method_7_code
def yX4_later : MethodName := ⟨RX4, "later", "(II)I"⟩
abbrev cX4_piece : ByteArray := prog_1_method_8_code
def yX4_piece : MethodName := ⟨RX4, "piece", "(III)I"⟩
abbrev cX4_uses : ByteArray := prog_1_method_9_code
def yX4_uses : MethodName := ⟨RX4, "uses", "(III)I"⟩
abbrev cX4_choices : ByteArray := prog_1_method_10_code
def yX4_choices : MethodName := ⟨RX4, "choices", "(I)I"⟩
abbrev cX4_whole : ByteArray := prog_1_method_11_code
def yX4_whole : MethodName := ⟨RX4, "whole", "(I)I"⟩
abbrev cX4_coin : ByteArray := prog_1_method_12_code
def yX4_coin : MethodName := ⟨RX4, "coin", "(I)I"⟩
abbrev cX4_pieces : ByteArray := prog_1_method_13_code
def yX4_pieces : MethodName := ⟨RX4, "pieces", "()I"⟩
abbrev cX4_by : ByteArray := prog_1_method_14_code
def yX4_by : MethodName := ⟨RX4, "by", "(II)I"⟩
abbrev cX4_best : ByteArray := prog_1_method_15_code
def yX4_best : MethodName := ⟨RX4, "best", "(II)I"⟩
abbrev cX4_good : ByteArray := prog_1_method_16_code
def yX4_good : MethodName := ⟨RX4, "good", "()I"⟩
abbrev cX4_bar : ByteArray := prog_1_method_17_code
def yX4_bar : MethodName := ⟨RX4, "bar", "()I"⟩
abbrev cX4_anew : ByteArray := prog_1_method_18_code
def yX4_anew : MethodName := ⟨RX4, "anew", "(I)I"⟩
abbrev cX4_looser : ByteArray := prog_1_method_19_code
def yX4_looser : MethodName := ⟨RX4, "looser", "(I)I"⟩
abbrev cX4_agree : ByteArray := prog_1_method_20_code
def yX4_agree : MethodName := ⟨RX4, "agree", "(II)I"⟩
abbrev cX4_more : ByteArray := prog_1_method_21_code
def yX4_more : MethodName := ⟨RX4, "more", "(III)I"⟩
abbrev cX4_names : ByteArray := prog_1_method_22_code
def yX4_names : MethodName := ⟨RX4, "names", "(I)I"⟩
abbrev cX4_audit : ByteArray := prog_1_method_23_code
def yX4_audit : MethodName := ⟨RX4, "audit", "(II)I"⟩
abbrev cX4_image : ByteArray := prog_1_method_24_code
def yX4_image : MethodName := ⟨RX4, "image", "(I)I"⟩
abbrev cX4_restore : ByteArray := prog_1_method_25_code
def yX4_restore : MethodName := ⟨RX4, "restore", "(I)I"⟩
abbrev cX4_told : ByteArray := prog_1_method_26_code
def yX4_told : MethodName := ⟨RX4, "told", "(I)I"⟩
abbrev cX4_within : ByteArray := prog_1_method_27_code
def yX4_within : MethodName := ⟨RX4, "within", "(III)Z"⟩
abbrev cX4_isTerms : ByteArray := prog_1_method_28_code
def yX4_isTerms : MethodName := ⟨RX4, "isTerms", "(I)Z"⟩
abbrev cX4_isPiece : ByteArray := prog_1_method_29_code
def yX4_isPiece : MethodName := ⟨RX4, "isPiece", "(I)Z"⟩
abbrev cX4_has : ByteArray := prog_1_method_30_code
def yX4_has : MethodName := ⟨RX4, "has", "(II)Z"⟩
abbrev cX4_isPartOf : ByteArray := prog_1_method_31_code
def yX4_isPartOf : MethodName := ⟨RX4, "isPartOf", "(II)Z"⟩
abbrev cX4_use : ByteArray := prog_1_method_32_code
def yX4_use : MethodName := ⟨RX4, "use", "(II)I"⟩
abbrev cX4_swap : ByteArray := prog_1_method_33_code
def yX4_swap : MethodName := ⟨RX4, "swap", "([III)I"⟩
abbrev cX4_takeDigits : ByteArray := prog_1_method_34_code
def yX4_takeDigits : MethodName := ⟨RX4, "takeDigits", "(I)Z"⟩
abbrev cX4_fewestBarring : ByteArray := prog_1_method_35_code
def yX4_fewestBarring : MethodName := ⟨RX4, "fewestBarring", "()I"⟩
abbrev cX4_cheapestAnew : ByteArray := prog_1_method_36_code
def yX4_cheapestAnew : MethodName := ⟨RX4, "cheapestAnew", "()I"⟩
abbrev cX4_isCheaper : ByteArray := prog_1_method_37_code
def yX4_isCheaper : MethodName := ⟨RX4, "isCheaper", "(II)Z"⟩
abbrev cX4_costOf : ByteArray := prog_1_method_38_code
def yX4_costOf : MethodName := ⟨RX4, "costOf", "(I)I"⟩
abbrev cX4_cheapestLooser : ByteArray := prog_1_method_39_code
def yX4_cheapestLooser : MethodName := ⟨RX4, "cheapestLooser", "(I)I"⟩
abbrev cX4_countNamed : ByteArray := prog_1_method_40_code
def yX4_countNamed : MethodName := ⟨RX4, "countNamed", "()V"⟩
abbrev cX4_namedInAll : ByteArray := prog_1_method_41_code
def yX4_namedInAll : MethodName := ⟨RX4, "namedInAll", "()I"⟩
abbrev cX4_namedAt : ByteArray := prog_1_method_42_code
def yX4_namedAt : MethodName := ⟨RX4, "namedAt", "(I)I"⟩
abbrev cX4_namedAhead : ByteArray := prog_1_method_43_code
def yX4_namedAhead : MethodName := ⟨RX4, "namedAhead", "(I)I"⟩
abbrev cX4_toldKind : ByteArray := prog_1_method_44_code
def yX4_toldKind : MethodName := ⟨RX4, "toldKind", "(I)I"⟩
abbrev cX4_toldPiece : ByteArray := prog_1_method_45_code
def yX4_toldPiece : MethodName := ⟨RX4, "toldPiece", "(II)I"⟩
def RX5 : String := "UnderTermsModel"
def TX5 : u_T := fun k => match k with
  | 0 => ("UnderTermsModel", "signs", "I", false)
  | 1 => ("UnderTermsModel", "pad", "[I", true)
  | 2 => ("UnderTermsModel", "asks", "[I", true)
  | 3 => ("UnderTermsModel", "reach", "[I", true)
  | 4 => ("UnderTermsModel", "go", "[I", true)
  | 5 => ("UnderTermsModel", "later", "[I", true)
  | 6 => ("UnderTermsModel", "piece", "[I", true)
  | 7 => ("UnderTermsModel", "use", "[I", true)
  | 8 => ("UnderTermsModel", "whole", "I", false)
  | 9 => ("UnderTermsModel", "coin", "I", false)
  | 10 => ("UnderTermsModel", "readAsks", "I", false)
  | 11 => ("UnderTermsModel", "readReach", "I", false)
  | 12 => ("UnderTermsModel", "readGo", "I", false)
  | 13 => ("UnderTermsModel", "within", "[I", true)
  | 14 => ("UnderTermsModel", "may", "[I", true)
  | 15 => ("UnderTermsModel", "mute", "I", false)
  | 16 => ("UnderTermsModel", "chosen", "[I", true)
  | 17 => ("UnderTermsModel", "bestTerms", "[I", true)
  | 18 => ("UnderTermsModel", "bestMusts", "I", false)
  | 19 => ("UnderTermsModel", "bestGo", "I", false)
  | 20 => ("UnderTermsModel", "kept", "[I", true)
  | 21 => ("UnderTermsModel", "names", "[I", true)
  | 22 => ("UnderTermsModel", "longest", "[I", true)
  | 23 => ("UnderTermsModel", "ways", "[I", true)
  | 24 => ("UnderTermsModel", "image", "[I", true)
  | _ => ("UnderTermsModel", "isKept", "[Z", true)
def tyX5 : Nat → FieldType := fun k => match k with
  | 0 => .int
  | 1 => .array .int
  | 2 => .array .int
  | 3 => .array .int
  | 4 => .array .int
  | 5 => .array .int
  | 6 => .array .int
  | 7 => .array .int
  | 8 => .int
  | 9 => .int
  | 10 => .int
  | 11 => .int
  | 12 => .int
  | 13 => .array .int
  | 14 => .array .int
  | 15 => .int
  | 16 => .array .int
  | 17 => .array .int
  | 18 => .int
  | 19 => .int
  | 20 => .array .int
  | 21 => .array .int
  | 22 => .array .int
  | 23 => .array .int
  | 24 => .array .int
  | _ => .array .boolean
abbrev wsX50 : List Cond := u_ws RX5 TX5 26
theorem nmX5 : ∀ a, a < 26 → ∀ b, b < 26 → a ≠ b → (TX5 a).2.1 ≠ (TX5 b).2.1 := by decide +kernel
theorem tyX5_ok : ∀ k, k < 26 → parseFieldDescriptor (TX5 k).2.2.1 = some (tyX5 k) := by decide +kernel
abbrev cX5_init : ByteArray := prog_7_method_1_code
def yX5_init : MethodName := ⟨RX5, "<init>", "()V"⟩
abbrev cX5_in : ByteArray := prog_7_method_2_code
def yX5_in : MethodName := ⟨RX5, "in", "(III)Z"⟩
abbrev cX5_isTerms : ByteArray := prog_7_method_3_code
def yX5_isTerms : MethodName := ⟨RX5, "isTerms", "(I)Z"⟩
abbrev cX5_isPiece : ByteArray := prog_7_method_4_code
def yX5_isPiece : MethodName := ⟨RX5, "isPiece", "(I)Z"⟩
abbrev cX5_has : ByteArray := prog_7_method_5_code
def yX5_has : MethodName := ⟨RX5, "has", "(II)Z"⟩
abbrev cX5_bits : ByteArray := prog_7_method_6_code
def yX5_bits : MethodName := ⟨RX5, "bits", "(I)I"⟩
abbrev cX5_say : ByteArray := prog_7_method_7_code
def yX5_say : MethodName := ⟨RX5, "say", "(I)I"⟩
abbrev cX5_wipe : ByteArray := prog_7_method_8_code
def yX5_wipe : MethodName := ⟨RX5, "wipe", "()I"⟩
abbrev cX5_askOf : ByteArray := prog_7_method_9_code
def yX5_askOf : MethodName := ⟨RX5, "askOf", "(I)I"⟩
abbrev cX5_faultOf : ByteArray := prog_7_method_10_code
def yX5_faultOf : MethodName := ⟨RX5, "faultOf", "()I"⟩
abbrev cX5_fault : ByteArray := prog_7_method_11_code
def yX5_fault : MethodName := ⟨RX5, "fault", "()I"⟩
abbrev cX5_terms : ByteArray := prog_7_method_12_code
def yX5_terms : MethodName := ⟨RX5, "terms", "(I)I"⟩
abbrev cX5_about : ByteArray := prog_7_method_13_code
def yX5_about : MethodName := ⟨RX5, "about", "(II)I"⟩
abbrev cX5_later : ByteArray := prog_7_method_14_code
def yX5_later : MethodName := ⟨RX5, "later", "(II)I"⟩
abbrev cX5_mostOf : ByteArray := prog_7_method_15_code
def yX5_mostOf : MethodName := ⟨RX5, "mostOf", "(I)I"⟩
abbrev cX5_piece : ByteArray := prog_7_method_16_code
def yX5_piece : MethodName := ⟨RX5, "piece", "(III)I"⟩
abbrev cX5_uses : ByteArray := prog_7_method_17_code
def yX5_uses : MethodName := ⟨RX5, "uses", "(III)I"⟩
abbrev cX5_choicesOf : ByteArray := prog_7_method_18_code
def yX5_choicesOf : MethodName := ⟨RX5, "choicesOf", "(I)I"⟩
abbrev cX5_choices : ByteArray := prog_7_method_19_code
def yX5_choices : MethodName := ⟨RX5, "choices", "(I)I"⟩
abbrev cX5_whole : ByteArray := prog_7_method_20_code
def yX5_whole : MethodName := ⟨RX5, "whole", "(I)I"⟩
abbrev cX5_coin : ByteArray := prog_7_method_21_code
def yX5_coin : MethodName := ⟨RX5, "coin", "(I)I"⟩
abbrev cX5_lay : ByteArray := prog_7_method_22_code
def yX5_lay : MethodName := ⟨RX5, "lay", "()V"⟩
abbrev cX5_pieces : ByteArray := prog_7_method_23_code
def yX5_pieces : MethodName := ⟨RX5, "pieces", "()I"⟩
abbrev cX5_isChosen : ByteArray := prog_7_method_24_code
def yX5_isChosen : MethodName := ⟨RX5, "isChosen", "(I)Z"⟩
abbrev cX5_reaches : ByteArray := prog_7_method_25_code
def yX5_reaches : MethodName := ⟨RX5, "reaches", "(I)Z"⟩
abbrev cX5_byWay : ByteArray := prog_7_method_26_code
def yX5_byWay : MethodName := ⟨RX5, "byWay", "(II)I"⟩
abbrev cX5_musts : ByteArray := prog_7_method_27_code
def yX5_musts : MethodName := ⟨RX5, "musts", "()I"⟩
abbrev cX5_mayGo : ByteArray := prog_7_method_28_code
def yX5_mayGo : MethodName := ⟨RX5, "mayGo", "()I"⟩
abbrev cX5_by : ByteArray := prog_7_method_29_code
def yX5_by : MethodName := ⟨RX5, "by", "(II)I"⟩
abbrev cX5_leastIn : ByteArray := prog_7_method_30_code
def yX5_leastIn : MethodName := ⟨RX5, "leastIn", "(I)I"⟩
abbrev cX5_begin : ByteArray := prog_7_method_31_code
def yX5_begin : MethodName := ⟨RX5, "begin", "()V"⟩
abbrev cX5_next : ByteArray := prog_7_method_32_code
def yX5_next : MethodName := ⟨RX5, "next", "()Z"⟩
abbrev cX5_layBest : ByteArray := prog_7_method_33_code
def yX5_layBest : MethodName := ⟨RX5, "layBest", "(I)Z"⟩
abbrev cX5_best : ByteArray := prog_7_method_34_code
def yX5_best : MethodName := ⟨RX5, "best", "(II)I"⟩
abbrev cX5_good : ByteArray := prog_7_method_35_code
def yX5_good : MethodName := ⟨RX5, "good", "()I"⟩
abbrev cX5_someGood : ByteArray := prog_7_method_36_code
def yX5_someGood : MethodName := ⟨RX5, "someGood", "()Z"⟩
abbrev cX5_inside : ByteArray := prog_7_method_37_code
def yX5_inside : MethodName := ⟨RX5, "inside", "()I"⟩
abbrev cX5_bar : ByteArray := prog_7_method_38_code
def yX5_bar : MethodName := ⟨RX5, "bar", "()I"⟩
abbrev cX5_coinOf : ByteArray := prog_7_method_39_code
def yX5_coinOf : MethodName := ⟨RX5, "coinOf", "(I)I"⟩
abbrev cX5_anew : ByteArray := prog_7_method_40_code
def yX5_anew : MethodName := ⟨RX5, "anew", "(I)I"⟩
abbrev cX5_usesOf : ByteArray := prog_7_method_41_code
def yX5_usesOf : MethodName := ⟨RX5, "usesOf", "(I)I"⟩
abbrev cX5_loosen : ByteArray := prog_7_method_42_code
def yX5_loosen : MethodName := ⟨RX5, "loosen", "(II)V"⟩
abbrev cX5_looser : ByteArray := prog_7_method_43_code
def yX5_looser : MethodName := ⟨RX5, "looser", "(I)I"⟩
abbrev cX5_agree : ByteArray := prog_7_method_44_code
def yX5_agree : MethodName := ⟨RX5, "agree", "(II)I"⟩
abbrev cX5_more : ByteArray := prog_7_method_45_code
def yX5_more : MethodName := ⟨RX5, "more", "(III)I"⟩
abbrev cX5_names : ByteArray := prog_7_method_46_code
def yX5_names : MethodName := ⟨RX5, "names", "(I)I"⟩
abbrev cX5_audit : ByteArray := prog_7_method_47_code
def yX5_audit : MethodName := ⟨RX5, "audit", "(II)I"⟩
abbrev cX5_image : ByteArray := prog_7_method_48_code
def yX5_image : MethodName := ⟨RX5, "image", "(I)I"⟩
abbrev cX5_restore : ByteArray := prog_7_method_49_code
def yX5_restore : MethodName := ⟨RX5, "restore", "(I)I"⟩
abbrev cX5_told : ByteArray := prog_7_method_50_code
def yX5_told : MethodName := ⟨RX5, "told", "(I)I"⟩
def RJ6 : String := "java/lang/Integer"
def TJ6 : u_T := fun k => match k with
  | _ => ("", "", "", false)
def tyJ6 : Nat → FieldType := fun k => match k with
  | _ => .int
abbrev wsJ60 : List Cond := u_ws RJ6 TJ6 0
theorem nmJ6 : ∀ a, a < 0 → ∀ b, b < 0 → a ≠ b → (TJ6 a).2.1 ≠ (TJ6 b).2.1 := by decide +kernel
theorem tyJ6_ok : ∀ k, k < 0 → parseFieldDescriptor (TJ6 k).2.2.1 = some (tyJ6 k) := by decide +kernel
abbrev cJ6_bitCount_0f7a4 : ByteArray := prog_8_method_49_code
def yJ6_bitCount_0f7a4 : MethodName := ⟨RJ6, "bitCount", "(I)I"⟩
def RJ9 : String := "java/lang/Math"
def TJ9 : u_T := fun k => match k with
  | _ => ("", "", "", false)
def tyJ9 : Nat → FieldType := fun k => match k with
  | _ => .int
abbrev wsJ90 : List Cond := u_ws RJ9 TJ9 0
theorem nmJ9 : ∀ a, a < 0 → ∀ b, b < 0 → a ≠ b → (TJ9 a).2.1 ≠ (TJ9 b).2.1 := by decide +kernel
theorem tyJ9_ok : ∀ k, k < 0 → parseFieldDescriptor (TJ9 k).2.2.1 = some (tyJ9 k) := by decide +kernel
abbrev cJ9_max_7cf53 : ByteArray := prog_9_method_65_code
def yJ9_max_7cf53 : MethodName := ⟨RJ9, "max", "(II)I"⟩
def RJ10 : String := "java/lang/System"
def TJ10 : u_T := fun k => match k with
  | _ => ("", "", "", false)
def tyJ10 : Nat → FieldType := fun k => match k with
  | _ => .int
abbrev wsJ100 : List Cond := u_ws RJ10 TJ10 0
theorem nmJ10 : ∀ a, a < 0 → ∀ b, b < 0 → a ≠ b → (TJ10 a).2.1 ≠ (TJ10 b).2.1 := by decide +kernel
theorem tyJ10_ok : ∀ k, k < 0 → parseFieldDescriptor (TJ10 k).2.2.1 = some (tyJ10 k) := by decide +kernel
def RL : String := "UnderTermsLaw"
abbrev cL_law : ByteArray := code
def yL_law : MethodName := ⟨RL, "law", "([I)Z"⟩
def wsJ6_bitCount_0f7a4 : List Cond := .code yJ6_bitCount_0f7a4 cJ6_bitCount_0f7a4 1 (some .int) :: ([.constant RJ6 265 (1431655765), .constant RJ6 266 (858993459), .constant RJ6 267 (252645135)])
def wsJ9_max_7cf53 : List Cond := .code yJ9_max_7cf53 cJ9_max_7cf53 2 (some .int) :: ([])
def wsL_law_r1 : List Cond := [Cond.classLink RL 7 RX4, Cond.instantiable RX4 7, Cond.initialized RX4, Cond.classLink RL 10 RX5, Cond.instantiable RX5 26, Cond.initialized RX5, Cond.methodLink RL 9 yX4_init, Cond.instanceMethod yX4_init, Cond.code yX4_init cX4_init 2 none, Cond.methodLink RX4 1 objectInit, Cond.instanceMethod objectInit, Cond.code objectInit ⟨#[0xb1]⟩ 1 none, Cond.classLink RX4 7 RX2, Cond.instantiable RX2 5, Cond.initialized RX2, Cond.fieldLink RX4 10 "UnderTerms" "pad" "LUnderTerms$Pad;", Cond.classLink RX4 16 RX0, Cond.instantiable RX0 11, Cond.initialized RX0, Cond.fieldLink RX4 19 "UnderTerms" "book" "LUnderTerms$Book;", Cond.classLink RX4 23 RX3, Cond.instantiable RX3 13, Cond.initialized RX3, Cond.fieldLink RX4 28 "UnderTerms" "web" "LUnderTerms$Web;"]
def wsL_law_r2 : List Cond := [Cond.classLink RX4 32 RX1, Cond.instantiable RX1 3, Cond.initialized RX1, Cond.fieldLink RX4 35 "UnderTerms" "taken" "LUnderTerms$Chosen;", Cond.fieldLink RX4 39 "UnderTerms" "images" "[LUnderTerms$Book;", Cond.arrayClass .boolean, Cond.fieldLink RX4 43 "UnderTerms" "kept" "[Z", Cond.arrayClass .int, Cond.fieldLink RX4 47 "UnderTerms" "named" "[I", Cond.instanceMethod yX2_init, Cond.code yX2_init cX2_init 1 none, Cond.methodLink RX2 3 objectInit, Cond.fieldLink RX2 11 "UnderTerms$Pad" "signs" "[I", Cond.fieldLink RX2 15 "UnderTerms$Pad" "count" "I", Cond.fieldLink RX2 19 "UnderTerms$Pad" "asks" "I", Cond.fieldLink RX2 22 "UnderTerms$Pad" "reach" "I", Cond.fieldLink RX2 25 "UnderTerms$Pad" "go" "I", Cond.methodLink RX4 18 yX0_init, Cond.instanceMethod yX0_init, Cond.code yX0_init cX0_init 2 none, Cond.methodLink RX0 3 objectInit, Cond.fieldLink RX0 9 "UnderTerms$Book" "asks" "[I", Cond.fieldLink RX0 15 "UnderTerms$Book" "reach" "[I", Cond.fieldLink RX0 18 "UnderTerms$Book" "go" "[I"]
def wsL_law_r3 : List Cond := [Cond.fieldLink RX0 21 "UnderTerms$Book" "later" "[I", Cond.fieldLink RX0 24 "UnderTerms$Book" "offered" "[I", Cond.fieldLink RX0 27 "UnderTerms$Book" "orLater" "[I", Cond.fieldLink RX0 30 "UnderTerms$Book" "owners" "[I", Cond.fieldLink RX0 33 "UnderTerms$Book" "anew" "[I", Cond.fieldLink RX0 36 "UnderTerms$Book" "kinds" "[I", Cond.fieldLink RX0 39 "UnderTerms$Book" "whole" "I", Cond.fieldLink RX0 43 "UnderTerms$Book" "coin" "I", Cond.methodLink RX4 25 yX3_init, Cond.instanceMethod yX3_init, Cond.code yX3_init cX3_init 2 none, Cond.methodLink RX3 3 objectInit, Cond.fieldLink RX3 9 "UnderTerms$Web" "choices" "[I", Cond.fieldLink RX3 15 "UnderTerms$Web" "longest" "[I", Cond.fieldLink RX3 18 "UnderTerms$Web" "ways" "[I", Cond.fieldLink RX3 21 "UnderTerms$Web" "members" "I", Cond.fieldLink RX3 25 "UnderTerms$Web" "parts" "I", Cond.fieldLink RX3 28 "UnderTerms$Web" "kinds" "[I", Cond.fieldLink RX3 31 "UnderTerms$Web" "goes" "[I", Cond.fieldLink RX3 34 "UnderTerms$Web" "asks" "[I", Cond.fieldLink RX3 37 "UnderTerms$Web" "reached" "[I", Cond.fieldLink RX3 40 "UnderTerms$Web" "lets" "[I", Cond.fieldLink RX3 43 "UnderTerms$Web" "counts" "[I", Cond.fieldLink RX3 46 "UnderTerms$Web" "nextCounts" "[I"]
def wsL_law_r4 : List Cond := [Cond.fieldLink RX3 49 "UnderTerms$Web" "book" "LUnderTerms$Book;", Cond.instanceMethod yX1_init, Cond.code yX1_init cX1_init 1 none, Cond.methodLink RX1 3 objectInit, Cond.fieldLink RX1 9 "UnderTerms$Chosen" "terms" "[I", Cond.fieldLink RX1 15 "UnderTerms$Chosen" "musts" "I", Cond.fieldLink RX1 19 "UnderTerms$Chosen" "mayGo" "I", Cond.methodLink RL 12 yX5_init, Cond.instanceMethod yX5_init, Cond.code yX5_init cX5_init 2 none, Cond.methodLink RX5 1 objectInit, Cond.fieldLink RX5 7 "UnderTermsModel" "pad" "[I", Cond.fieldLink RX5 13 "UnderTermsModel" "asks" "[I", Cond.fieldLink RX5 16 "UnderTermsModel" "reach" "[I", Cond.fieldLink RX5 19 "UnderTermsModel" "go" "[I", Cond.fieldLink RX5 22 "UnderTermsModel" "later" "[I", Cond.fieldLink RX5 25 "UnderTermsModel" "piece" "[I", Cond.fieldLink RX5 28 "UnderTermsModel" "use" "[I", Cond.fieldLink RX5 31 "UnderTermsModel" "whole" "I", Cond.fieldLink RX5 35 "UnderTermsModel" "coin" "I", Cond.fieldLink RX5 38 "UnderTermsModel" "within" "[I", Cond.fieldLink RX5 41 "UnderTermsModel" "may" "[I", Cond.fieldLink RX5 44 "UnderTermsModel" "chosen" "[I", Cond.fieldLink RX5 47 "UnderTermsModel" "bestTerms" "[I"]
def wsL_law_r5 : List Cond := [Cond.fieldLink RX5 50 "UnderTermsModel" "kept" "[I", Cond.fieldLink RX5 53 "UnderTermsModel" "names" "[I", Cond.fieldLink RX5 56 "UnderTermsModel" "longest" "[I", Cond.fieldLink RX5 59 "UnderTermsModel" "ways" "[I", Cond.fieldLink RX5 62 "UnderTermsModel" "image" "[I", Cond.fieldLink RX5 65 "UnderTermsModel" "isKept" "[Z", Cond.methodLink RL 13 yX4_say, Cond.instanceMethod yX4_say, Cond.selects RX4 yX4_say yX4_say, Cond.code yX4_say cX4_say 2 (some .int), Cond.fieldLink RX4 55 "UnderTerms$Pad" "count" "I", Cond.methodLink RX4 51 yX4_within, Cond.static yX4_within, Cond.code yX4_within cX4_within 3 (some .boolean), Cond.methodLink RX4 59 yX2_put, Cond.instanceMethod yX2_put, Cond.selects RX2 yX2_put yX2_put, Cond.code yX2_put cX2_put 2 none, Cond.methodLink RL 17 yX5_say, Cond.instanceMethod yX5_say, Cond.selects RX5 yX5_say yX5_say, Cond.code yX5_say cX5_say 2 (some .int), Cond.fieldLink RX5 73 "UnderTermsModel" "signs" "I", Cond.methodLink RX5 69 yX5_in]
def wsL_law_r6 : List Cond := [Cond.static yX5_in, Cond.code yX5_in cX5_in 3 (some .boolean), Cond.methodLink RL 18 yX4_wipe, Cond.instanceMethod yX4_wipe, Cond.selects RX4 yX4_wipe yX4_wipe, Cond.code yX4_wipe cX4_wipe 2 (some .int), Cond.methodLink RL 22 yX5_wipe, Cond.instanceMethod yX5_wipe, Cond.selects RX5 yX5_wipe yX5_wipe, Cond.code yX5_wipe cX5_wipe 2 (some .int), Cond.methodLink RL 23 yX4_fault, Cond.instanceMethod yX4_fault, Cond.selects RX4 yX4_fault yX4_fault, Cond.code yX4_fault cX4_fault 1 (some .int), Cond.methodLink RX4 63 yX2_read, Cond.instanceMethod yX2_read, Cond.selects RX2 yX2_read yX2_read, Cond.code yX2_read cX2_read 2 (some .int), Cond.methodLink RX2 28 yX2_readAsks, Cond.instanceMethod yX2_readAsks, Cond.selects RX2 yX2_readAsks yX2_readAsks, Cond.code yX2_readAsks cX2_readAsks 3 (some .int), Cond.methodLink RX2 40 yX2_askOf, Cond.static yX2_askOf]
def wsL_law_r7 : List Cond := [Cond.code yX2_askOf cX2_askOf 1 (some .int), Cond.methodLink RX2 36 yX2_readGo, Cond.instanceMethod yX2_readGo, Cond.selects RX2 yX2_readGo yX2_readGo, Cond.code yX2_readGo cX2_readGo 4 (some .int), Cond.static yX4_isTerms, Cond.code yX4_isTerms cX4_isTerms 1 (some .boolean), Cond.methodLink RL 26 yX5_fault, Cond.instanceMethod yX5_fault, Cond.selects RX5 yX5_fault yX5_fault, Cond.code yX5_fault cX5_fault 1 (some .int), Cond.methodLink RX5 89 yX5_faultOf, Cond.instanceMethod yX5_faultOf, Cond.selects RX5 yX5_faultOf yX5_faultOf, Cond.code yX5_faultOf cX5_faultOf 5 (some .int), Cond.fieldLink RX5 76 "UnderTermsModel" "readAsks" "I", Cond.fieldLink RX5 79 "UnderTermsModel" "readReach" "I", Cond.fieldLink RX5 82 "UnderTermsModel" "readGo" "I", Cond.methodLink RX5 85 yX5_askOf, Cond.static yX5_askOf, Cond.code yX5_askOf cX5_askOf 1 (some .int), Cond.methodLink RL 27 yX4_terms, Cond.instanceMethod yX4_terms, Cond.selects RX4 yX4_terms yX4_terms]
def wsL_law_r8 : List Cond := [Cond.code yX4_terms cX4_terms 2 (some .int), Cond.fieldLink RX4 71 "UnderTerms$Book" "asks" "[I", Cond.fieldLink RX4 74 "UnderTerms$Pad" "asks" "I", Cond.fieldLink RX4 76 "UnderTerms$Book" "reach" "[I", Cond.fieldLink RX4 79 "UnderTerms$Pad" "reach" "I", Cond.fieldLink RX4 81 "UnderTerms$Book" "go" "[I", Cond.fieldLink RX4 84 "UnderTerms$Pad" "go" "I", Cond.methodLink RX4 67 yX4_isTerms, Cond.methodLink RL 30 yX5_terms, Cond.instanceMethod yX5_terms, Cond.selects RX5 yX5_terms yX5_terms, Cond.code yX5_terms cX5_terms 2 (some .int), Cond.methodLink RX5 93 yX5_isTerms, Cond.static yX5_isTerms, Cond.code yX5_isTerms cX5_isTerms 1 (some .boolean), Cond.methodLink RL 31 yX4_about, Cond.instanceMethod yX4_about, Cond.selects RX4 yX4_about yX4_about, Cond.code yX4_about cX4_about 3 (some .int), Cond.fieldLink RX4 86 "UnderTerms$Book" "later" "[I", Cond.methodLink RL 35 yX5_about, Cond.instanceMethod yX5_about, Cond.selects RX5 yX5_about yX5_about, Cond.code yX5_about cX5_about 3 (some .int)]
def wsL_law_r9 : List Cond := [Cond.methodLink RL 36 yX4_later, Cond.instanceMethod yX4_later, Cond.selects RX4 yX4_later yX4_later, Cond.code yX4_later cX4_later 4 (some .int), Cond.methodLink RL 39 yX5_later, Cond.instanceMethod yX5_later, Cond.selects RX5 yX5_later yX5_later, Cond.code yX5_later cX5_later 4 (some .int), Cond.methodLink RL 40 yX4_piece, Cond.instanceMethod yX4_piece, Cond.selects RX4 yX4_piece yX4_piece, Cond.code yX4_piece cX4_piece 4 (some .int), Cond.fieldLink RX4 92 "UnderTerms$Book" "offered" "[I", Cond.fieldLink RX4 99 "UnderTerms$Book" "orLater" "[I", Cond.fieldLink RX4 102 "UnderTerms$Book" "owners" "[I", Cond.fieldLink RX4 105 "UnderTerms$Book" "anew" "[I", Cond.methodLink RX4 89 yX4_isPiece, Cond.static yX4_isPiece, Cond.code yX4_isPiece cX4_isPiece 1 (some .boolean), Cond.methodLink RX4 95 yX4_swap, Cond.static yX4_swap, Cond.code yX4_swap cX4_swap 4 (some .int), Cond.methodLink RL 44 yX5_piece, Cond.instanceMethod yX5_piece]
def wsL_law_r10 : List Cond := [Cond.selects RX5 yX5_piece yX5_piece, Cond.code yX5_piece cX5_piece 5 (some .int), Cond.methodLink RX5 97 yX5_isPiece, Cond.static yX5_isPiece, Cond.code yX5_isPiece cX5_isPiece 1 (some .boolean), Cond.methodLink RX5 100 yX5_mostOf, Cond.static yX5_mostOf, Cond.code yX5_mostOf cX5_mostOf 1 (some .int), Cond.methodLink RL 45 yX4_uses, Cond.instanceMethod yX4_uses, Cond.selects RX4 yX4_uses yX4_uses, Cond.code yX4_uses cX4_uses 4 (some .int), Cond.fieldLink RX4 108 "UnderTerms$Book" "kinds" "[I", Cond.methodLink RX4 111 yX4_use, Cond.static yX4_use, Cond.code yX4_use cX4_use 2 (some .int), Cond.methodLink RL 48 yX5_uses, Cond.instanceMethod yX5_uses, Cond.selects RX5 yX5_uses yX5_uses, Cond.code yX5_uses cX5_uses 5 (some .int), Cond.methodLink RL 49 yX4_choices, Cond.instanceMethod yX4_choices, Cond.selects RX4 yX4_choices yX4_choices, Cond.code yX4_choices cX4_choices 2 (some .int)]
def wsL_law_r11 : List Cond := [Cond.methodLink RX4 115 yX0_choicesOf, Cond.instanceMethod yX0_choicesOf, Cond.selects RX0 yX0_choicesOf yX0_choicesOf, Cond.code yX0_choicesOf cX0_choicesOf 5 (some .int), Cond.static yX4_has, Cond.code yX4_has cX4_has 2 (some .boolean), Cond.methodLink RL 52 yX5_choices, Cond.instanceMethod yX5_choices, Cond.selects RX5 yX5_choices yX5_choices, Cond.code yX5_choices cX5_choices 2 (some .int), Cond.methodLink RX5 107 yX5_choicesOf, Cond.instanceMethod yX5_choicesOf, Cond.selects RX5 yX5_choicesOf yX5_choicesOf, Cond.code yX5_choicesOf cX5_choicesOf 5 (some .int), Cond.methodLink RX5 103 yX5_has, Cond.static yX5_has, Cond.code yX5_has cX5_has 2 (some .boolean), Cond.methodLink RL 53 yX4_whole, Cond.instanceMethod yX4_whole, Cond.selects RX4 yX4_whole yX4_whole, Cond.code yX4_whole cX4_whole 3 (some .int), Cond.fieldLink RX4 119 "UnderTerms$Book" "whole" "I", Cond.methodLink RL 56 yX5_whole, Cond.instanceMethod yX5_whole]
def wsL_law_r12 : List Cond := [Cond.selects RX5 yX5_whole yX5_whole, Cond.code yX5_whole cX5_whole 3 (some .int), Cond.methodLink RL 57 yX4_coin, Cond.instanceMethod yX4_coin, Cond.selects RX4 yX4_coin yX4_coin, Cond.code yX4_coin cX4_coin 3 (some .int), Cond.fieldLink RX4 122 "UnderTerms$Book" "coin" "I", Cond.methodLink RL 60 yX5_coin, Cond.instanceMethod yX5_coin, Cond.selects RX5 yX5_coin yX5_coin, Cond.code yX5_coin cX5_coin 3 (some .int), Cond.methodLink RL 61 yX4_pieces, Cond.instanceMethod yX4_pieces, Cond.selects RX4 yX4_pieces yX4_pieces, Cond.code yX4_pieces cX4_pieces 1 (some .int), Cond.fieldLink RX4 128 "UnderTerms$Web" "members" "I", Cond.methodLink RX4 125 yX3_spin, Cond.instanceMethod yX3_spin, Cond.selects RX3 yX3_spin yX3_spin, Cond.code yX3_spin cX3_spin 2 none, Cond.fieldLink RX3 53 "UnderTerms$Book" "kinds" "[I", Cond.methodLink RX3 56 arraycopyName, Cond.native arraycopyName, Cond.static arraycopyName]
def wsL_law_r13 : List Cond := [Cond.initialized "java/lang/System", Cond.methodLink RX3 62 yX0_choicesOf, Cond.methodLink RX3 66 yX3_spread, Cond.instanceMethod yX3_spread, Cond.selects RX3 yX3_spread yX3_spread, Cond.code yX3_spread cX3_spread 4 none, Cond.fieldLink RX3 69 "UnderTerms$Book" "whole" "I", Cond.fieldLink RX3 89 "UnderTerms$Book" "go" "[I", Cond.fieldLink RX3 92 "UnderTerms$Book" "asks" "[I", Cond.methodLink RX3 80 yX3_reachedBy, Cond.instanceMethod yX3_reachedBy, Cond.selects RX3 yX3_reachedBy yX3_reachedBy, Cond.code yX3_reachedBy cX3_reachedBy 5 (some .int), Cond.methodLink RX3 83 yX3_reaches, Cond.instanceMethod yX3_reaches, Cond.selects RX3 yX3_reaches yX3_reaches, Cond.code yX3_reaches cX3_reaches 3 (some .boolean), Cond.fieldLink RX3 97 "UnderTerms$Book" "reach" "[I", Cond.methodLink RX3 86 yX3_offer, Cond.static yX3_offer, Cond.code yX3_offer cX3_offer 2 (some .int), Cond.methodLink RL 64 yX5_pieces, Cond.instanceMethod yX5_pieces, Cond.selects RX5 yX5_pieces yX5_pieces]
def wsL_law_r14 : List Cond := [Cond.code yX5_pieces cX5_pieces 1 (some .int), Cond.methodLink RX5 113 yX5_lay, Cond.instanceMethod yX5_lay, Cond.selects RX5 yX5_lay yX5_lay, Cond.code yX5_lay cX5_lay 5 none, Cond.fieldLink RX5 110 "UnderTermsModel" "mute" "I", Cond.methodLink RL 65 yX4_by, Cond.instanceMethod yX4_by, Cond.selects RX4 yX4_by yX4_by, Cond.code yX4_by cX4_by 3 (some .int), Cond.constant RX4 131 (999999), Cond.fieldLink RX4 135 "UnderTerms$Chosen" "terms" "[I", Cond.methodLink RX4 132 yX4_takeDigits, Cond.instanceMethod yX4_takeDigits, Cond.selects RX4 yX4_takeDigits yX4_takeDigits, Cond.code yX4_takeDigits cX4_takeDigits 6 (some .boolean), Cond.fieldLink RX4 159 "UnderTerms$Web" "parts" "I", Cond.fieldLink RX4 184 "UnderTerms$Web" "choices" "[I", Cond.methodLink RX4 162 yX4_has, Cond.methodLink RX4 138 yX3_reachingBy, Cond.instanceMethod yX3_reachingBy, Cond.selects RX3 yX3_reachingBy yX3_reachingBy, Cond.code yX3_reachingBy cX3_reachingBy 4 (some .int), Cond.methodLink RX4 142 yX3_mayGoBy]
def wsL_law_r15 : List Cond := [Cond.instanceMethod yX3_mayGoBy, Cond.selects RX3 yX3_mayGoBy yX3_mayGoBy, Cond.code yX3_mayGoBy cX3_mayGoBy 4 (some .int), Cond.methodLink RX4 145 yX3_mustsBy, Cond.instanceMethod yX3_mustsBy, Cond.selects RX3 yX3_mustsBy yX3_mustsBy, Cond.code yX3_mustsBy cX3_mustsBy 5 (some .int), Cond.methodLink RX3 100 yX3_askedBy, Cond.static yX3_askedBy, Cond.code yX3_askedBy cX3_askedBy 1 (some .int), Cond.methodLink RL 68 yX5_by, Cond.instanceMethod yX5_by, Cond.selects RX5 yX5_by yX5_by, Cond.code yX5_by cX5_by 7 (some .int), Cond.methodLink RX5 116 yX5_isChosen, Cond.instanceMethod yX5_isChosen, Cond.selects RX5 yX5_isChosen yX5_isChosen, Cond.code yX5_isChosen cX5_isChosen 2 (some .boolean), Cond.methodLink RX5 122 yX5_mayGo, Cond.instanceMethod yX5_mayGo, Cond.selects RX5 yX5_mayGo yX5_mayGo, Cond.code yX5_mayGo cX5_mayGo 3 (some .int), Cond.methodLink RX5 119 yX5_reaches, Cond.instanceMethod yX5_reaches]
def wsL_law_r16 : List Cond := [Cond.selects RX5 yX5_reaches yX5_reaches, Cond.code yX5_reaches cX5_reaches 2 (some .boolean), Cond.methodLink RX5 125 yX5_musts, Cond.instanceMethod yX5_musts, Cond.selects RX5 yX5_musts yX5_musts, Cond.code yX5_musts cX5_musts 3 (some .int), Cond.methodLink RX5 128 yX5_byWay, Cond.static yX5_byWay, Cond.code yX5_byWay cX5_byWay 2 (some .int), Cond.methodLink RL 69 yX4_best, Cond.instanceMethod yX4_best, Cond.selects RX4 yX4_best yX4_best, Cond.code yX4_best cX4_best 3 (some .int), Cond.fieldLink RX4 153 "UnderTerms$Chosen" "mayGo" "I", Cond.fieldLink RX4 156 "UnderTerms$Chosen" "musts" "I", Cond.methodLink RX4 149 yX3_findBest, Cond.instanceMethod yX3_findBest, Cond.selects RX3 yX3_findBest yX3_findBest, Cond.code yX3_findBest cX3_findBest 6 (some .boolean), Cond.fieldLink RX3 122 "UnderTerms$Chosen" "musts" "I", Cond.fieldLink RX3 127 "UnderTerms$Chosen" "terms" "[I", Cond.fieldLink RX3 133 "UnderTerms$Chosen" "mayGo" "I", Cond.methodLink RX3 119 yX3_leastMusts, Cond.instanceMethod yX3_leastMusts]
def wsL_law_r17 : List Cond := [Cond.selects RX3 yX3_leastMusts yX3_leastMusts, Cond.code yX3_leastMusts cX3_leastMusts 5 (some .int), Cond.methodLink RX3 136 yJ6_bitCount_0f7a4, Cond.static yJ6_bitCount_0f7a4, Cond.initialized RJ6, Cond.code yJ6_bitCount_0f7a4 cJ6_bitCount_0f7a4 1 (some .int), Cond.constant RJ6 265 (1431655765), Cond.constant RJ6 266 (858993459), Cond.constant RJ6 267 (252645135), Cond.methodLink RX3 103 yX3_room, Cond.instanceMethod yX3_room, Cond.selects RX3 yX3_room yX3_room, Cond.code yX3_room cX3_room 4 (some .int), Cond.methodLink RX3 106 yX3_letsOf, Cond.instanceMethod yX3_letsOf, Cond.selects RX3 yX3_letsOf yX3_letsOf, Cond.code yX3_letsOf cX3_letsOf 5 (some .int), Cond.methodLink RX3 113 yX3_mayChoose, Cond.instanceMethod yX3_mayChoose, Cond.selects RX3 yX3_mayChoose yX3_mayChoose, Cond.code yX3_mayChoose cX3_mayChoose 4 (some .boolean), Cond.static yX4_isPartOf, Cond.code yX4_isPartOf cX4_isPartOf 2 (some .boolean), Cond.methodLink RX3 109 yX3_roomLeft]
def wsL_law_r18 : List Cond := [Cond.instanceMethod yX3_roomLeft, Cond.selects RX3 yX3_roomLeft yX3_roomLeft, Cond.code yX3_roomLeft cX3_roomLeft 3 (some .int), Cond.methodLink RX3 130 yX3_settle, Cond.instanceMethod yX3_settle, Cond.selects RX3 yX3_settle yX3_settle, Cond.code yX3_settle cX3_settle 4 (some .int), Cond.methodLink RL 72 yX5_best, Cond.instanceMethod yX5_best, Cond.selects RX5 yX5_best yX5_best, Cond.code yX5_best cX5_best 3 (some .int), Cond.fieldLink RX5 141 "UnderTermsModel" "bestMusts" "I", Cond.fieldLink RX5 144 "UnderTermsModel" "bestGo" "I", Cond.methodLink RX5 151 yX5_layBest, Cond.instanceMethod yX5_layBest, Cond.selects RX5 yX5_layBest yX5_layBest, Cond.code yX5_layBest cX5_layBest 7 (some .boolean), Cond.methodLink RX5 135 yX5_begin, Cond.instanceMethod yX5_begin, Cond.selects RX5 yX5_begin yX5_begin, Cond.code yX5_begin cX5_begin 2 none, Cond.methodLink RX5 132 yX5_leastIn, Cond.static yX5_leastIn, Cond.code yX5_leastIn cX5_leastIn 2 (some .int)]
def wsL_law_r19 : List Cond := [Cond.methodLink RX5 138 yX5_bits, Cond.static yX5_bits, Cond.code yX5_bits cX5_bits 3 (some .int), Cond.methodLink RX5 147 yX5_next, Cond.instanceMethod yX5_next, Cond.selects RX5 yX5_next yX5_next, Cond.code yX5_next cX5_next 3 (some .boolean), Cond.methodLink RL 73 yX4_good, Cond.instanceMethod yX4_good, Cond.selects RX4 yX4_good yX4_good, Cond.code yX4_good cX4_good 1 (some .int), Cond.methodLink RX4 166 yX3_countGood, Cond.instanceMethod yX3_countGood, Cond.selects RX3 yX3_countGood yX3_countGood, Cond.code yX3_countGood cX3_countGood 3 (some .int), Cond.methodLink RX3 141 yX3_countWith, Cond.instanceMethod yX3_countWith, Cond.selects RX3 yX3_countWith yX3_countWith, Cond.code yX3_countWith cX3_countWith 4 none, Cond.methodLink RL 76 yX5_good, Cond.instanceMethod yX5_good, Cond.selects RX5 yX5_good yX5_good, Cond.code yX5_good cX5_good 3 (some .int), Cond.methodLink RL 77 yX4_bar]
def wsL_law_r20 : List Cond := [Cond.instanceMethod yX4_bar, Cond.selects RX4 yX4_bar yX4_bar, Cond.code yX4_bar cX4_bar 1 (some .int), Cond.methodLink RX4 169 yX3_someGoodWith, Cond.instanceMethod yX3_someGoodWith, Cond.selects RX3 yX3_someGoodWith yX3_someGoodWith, Cond.code yX3_someGoodWith cX3_someGoodWith 2 (some .boolean), Cond.methodLink RX4 172 yX4_fewestBarring, Cond.instanceMethod yX4_fewestBarring, Cond.selects RX4 yX4_fewestBarring yX4_fewestBarring, Cond.code yX4_fewestBarring cX4_fewestBarring 4 (some .int), Cond.methodLink RX4 218 yJ6_bitCount_0f7a4, Cond.methodLink RX4 223 yX4_isPartOf, Cond.methodLink RL 80 yX5_bar, Cond.instanceMethod yX5_bar, Cond.selects RX5 yX5_bar yX5_bar, Cond.code yX5_bar cX5_bar 3 (some .int), Cond.methodLink RX5 154 yX5_someGood, Cond.instanceMethod yX5_someGood, Cond.selects RX5 yX5_someGood yX5_someGood, Cond.code yX5_someGood cX5_someGood 3 (some .boolean), Cond.methodLink RX5 157 yX5_inside, Cond.instanceMethod yX5_inside, Cond.selects RX5 yX5_inside yX5_inside]
def wsL_law_r21 : List Cond := [Cond.code yX5_inside cX5_inside 1 (some .int), Cond.methodLink RL 81 yX4_anew, Cond.instanceMethod yX4_anew, Cond.selects RX4 yX4_anew yX4_anew, Cond.code yX4_anew cX4_anew 3 (some .int), Cond.methodLink RX4 175 yX4_cheapestAnew, Cond.instanceMethod yX4_cheapestAnew, Cond.selects RX4 yX4_cheapestAnew yX4_cheapestAnew, Cond.code yX4_cheapestAnew cX4_cheapestAnew 3 (some .int), Cond.methodLink RX4 226 yX4_isCheaper, Cond.instanceMethod yX4_isCheaper, Cond.selects RX4 yX4_isCheaper yX4_isCheaper, Cond.code yX4_isCheaper cX4_isCheaper 5 (some .boolean), Cond.methodLink RX4 178 yX4_costOf, Cond.instanceMethod yX4_costOf, Cond.selects RX4 yX4_costOf yX4_costOf, Cond.code yX4_costOf cX4_costOf 4 (some .int), Cond.methodLink RL 84 yX5_anew, Cond.instanceMethod yX5_anew, Cond.selects RX5 yX5_anew yX5_anew, Cond.code yX5_anew cX5_anew 5 (some .int), Cond.methodLink RX5 160 yX5_coinOf, Cond.instanceMethod yX5_coinOf, Cond.selects RX5 yX5_coinOf yX5_coinOf]
def wsL_law_r22 : List Cond := [Cond.code yX5_coinOf cX5_coinOf 4 (some .int), Cond.methodLink RL 85 yX4_looser, Cond.instanceMethod yX4_looser, Cond.selects RX4 yX4_looser yX4_looser, Cond.code yX4_looser cX4_looser 2 (some .int), Cond.methodLink RX4 181 yX4_cheapestLooser, Cond.instanceMethod yX4_cheapestLooser, Cond.selects RX4 yX4_cheapestLooser yX4_cheapestLooser, Cond.code yX4_cheapestLooser cX4_cheapestLooser 8 (some .int), Cond.methodLink RX4 229 yX3_loosen, Cond.instanceMethod yX3_loosen, Cond.selects RX3 yX3_loosen yX3_loosen, Cond.code yX3_loosen cX3_loosen 6 (some .int), Cond.methodLink RL 88 yX5_looser, Cond.instanceMethod yX5_looser, Cond.selects RX5 yX5_looser yX5_looser, Cond.code yX5_looser cX5_looser 8 (some .int), Cond.methodLink RX5 163 yX5_usesOf, Cond.instanceMethod yX5_usesOf, Cond.selects RX5 yX5_usesOf yX5_usesOf, Cond.code yX5_usesOf cX5_usesOf 5 (some .int), Cond.methodLink RX5 166 yX5_loosen, Cond.instanceMethod yX5_loosen, Cond.selects RX5 yX5_loosen yX5_loosen]
def wsL_law_r23 : List Cond := [Cond.code yX5_loosen cX5_loosen 6 none, Cond.methodLink RL 89 yX4_agree, Cond.instanceMethod yX4_agree, Cond.selects RX4 yX4_agree yX4_agree, Cond.code yX4_agree cX4_agree 6 (some .int), Cond.methodLink RL 92 yX5_agree, Cond.instanceMethod yX5_agree, Cond.selects RX5 yX5_agree yX5_agree, Cond.code yX5_agree cX5_agree 6 (some .int), Cond.methodLink RL 93 yX4_more, Cond.instanceMethod yX4_more, Cond.selects RX4 yX4_more yX4_more, Cond.code yX4_more cX4_more 5 (some .int), Cond.methodLink RX4 187 yX3_tie, Cond.instanceMethod yX3_tie, Cond.selects RX3 yX3_tie yX3_tie, Cond.code yX3_tie cX3_tie 3 none, Cond.methodLink RL 96 yX5_more, Cond.instanceMethod yX5_more, Cond.selects RX5 yX5_more yX5_more, Cond.code yX5_more cX5_more 7 (some .int), Cond.methodLink RL 97 yX4_names, Cond.instanceMethod yX4_names, Cond.selects RX4 yX4_names yX4_names]
def wsL_law_r24 : List Cond := [Cond.code yX4_names cX4_names 2 (some .int), Cond.methodLink RX4 191 yX4_countNamed, Cond.instanceMethod yX4_countNamed, Cond.selects RX4 yX4_countNamed yX4_countNamed, Cond.code yX4_countNamed cX4_countNamed 5 none, Cond.methodLink RX4 194 yX4_namedInAll, Cond.instanceMethod yX4_namedInAll, Cond.selects RX4 yX4_namedInAll yX4_namedInAll, Cond.code yX4_namedInAll cX4_namedInAll 3 (some .int), Cond.methodLink RX4 197 yX4_namedAt, Cond.instanceMethod yX4_namedAt, Cond.selects RX4 yX4_namedAt yX4_namedAt, Cond.code yX4_namedAt cX4_namedAt 3 (some .int), Cond.methodLink RX4 232 yX4_namedAhead, Cond.instanceMethod yX4_namedAhead, Cond.selects RX4 yX4_namedAhead yX4_namedAhead, Cond.code yX4_namedAhead cX4_namedAhead 4 (some .int), Cond.methodLink RL 100 yX5_names, Cond.instanceMethod yX5_names, Cond.selects RX5 yX5_names yX5_names, Cond.code yX5_names cX5_names 5 (some .int), Cond.methodLink RL 101 yX4_audit, Cond.instanceMethod yX4_audit, Cond.selects RX4 yX4_audit yX4_audit]
def wsL_law_r25 : List Cond := [Cond.code yX4_audit cX4_audit 3 (some .int), Cond.fieldLink RX4 203 "UnderTerms$Web" "longest" "[I", Cond.fieldLink RX4 206 "UnderTerms$Web" "ways" "[I", Cond.methodLink RX4 200 yX3_walk, Cond.instanceMethod yX3_walk, Cond.selects RX3 yX3_walk yX3_walk, Cond.code yX3_walk cX3_walk 3 none, Cond.methodLink RX3 145 Lib.Math.max.name, Cond.static Lib.Math.max.name, Cond.initialized "java/lang/Math", Cond.code Lib.Math.max.name Lib.Math.max.code 2 (some .int), Cond.methodLink RL 104 yX5_audit, Cond.instanceMethod yX5_audit, Cond.selects RX5 yX5_audit yX5_audit, Cond.code yX5_audit cX5_audit 5 (some .int), Cond.methodLink RL 105 yX4_image, Cond.instanceMethod yX4_image, Cond.selects RX4 yX4_image yX4_image, Cond.code yX4_image cX4_image 2 (some .int), Cond.methodLink RX4 209 yX0_takeFrom, Cond.instanceMethod yX0_takeFrom, Cond.selects RX0 yX0_takeFrom yX0_takeFrom, Cond.code yX0_takeFrom cX0_takeFrom 2 none, Cond.methodLink RX0 46 arraycopyName]
def wsL_law_r26 : List Cond := [Cond.methodLink RL 108 yX5_image, Cond.instanceMethod yX5_image, Cond.selects RX5 yX5_image yX5_image, Cond.code yX5_image cX5_image 4 (some .int), Cond.methodLink RL 109 yX4_restore, Cond.instanceMethod yX4_restore, Cond.selects RX4 yX4_restore yX4_restore, Cond.code yX4_restore cX4_restore 2 (some .int), Cond.methodLink RL 112 yX5_restore, Cond.instanceMethod yX5_restore, Cond.selects RX5 yX5_restore yX5_restore, Cond.code yX5_restore cX5_restore 4 (some .int), Cond.methodLink RL 113 yX4_told, Cond.instanceMethod yX4_told, Cond.selects RX4 yX4_told yX4_told, Cond.code yX4_told cX4_told 2 (some .int), Cond.methodLink RX4 212 yX4_toldKind, Cond.instanceMethod yX4_toldKind, Cond.selects RX4 yX4_toldKind yX4_toldKind, Cond.code yX4_toldKind cX4_toldKind 4 (some .int), Cond.methodLink RX4 215 yX4_toldPiece, Cond.instanceMethod yX4_toldPiece, Cond.selects RX4 yX4_toldPiece yX4_toldPiece, Cond.code yX4_toldPiece cX4_toldPiece 3 (some .int)]
def wsL_law_r27 : List Cond := [Cond.methodLink RL 116 yX5_told, Cond.instanceMethod yX5_told, Cond.selects RX5 yX5_told yX5_told, Cond.code yX5_told cX5_told 3 (some .int)]
def wsL_law : List Cond := (wsL_law_r1 ++ (wsL_law_r2 ++ (wsL_law_r3 ++ (wsL_law_r4 ++ (wsL_law_r5 ++ (wsL_law_r6 ++ (wsL_law_r7 ++ (wsL_law_r8 ++ (wsL_law_r9 ++ (wsL_law_r10 ++ (wsL_law_r11 ++ (wsL_law_r12 ++ (wsL_law_r13 ++ (wsL_law_r14 ++ (wsL_law_r15 ++ (wsL_law_r16 ++ (wsL_law_r17 ++ (wsL_law_r18 ++ (wsL_law_r19 ++ (wsL_law_r20 ++ (wsL_law_r21 ++ (wsL_law_r22 ++ (wsL_law_r23 ++ (wsL_law_r24 ++ (wsL_law_r25 ++ (wsL_law_r26 ++ wsL_law_r27)))))))))))))))))))))))))) ++ wsX40 ++ wsX50 ++ wsX20 ++ wsX00 ++ wsX30 ++ wsX10 ++ ([] : List Cond)
set_option maxRecDepth 20000 in
theorem wsL_law_in : ∀ w ∈ wsL_law, w ∈ lw_tbl := fun w h => (goodIn_p wsL_law [53, 56, 61, 88, 144, 195, 546, 240, 243, 247, 630, 633, 251, 637, 255, 259, 263, 266, 271, 274, 641, 645, 648, 278, 652, 655, 283, 659, 287, 663, 291, 294, 297, 667, 670, 673, 301, 304, 677, 308, 312, 315, 681, 685, 688, 319, 692, 323, 696, 327, 331, 339, 343, 350, 353, 700, 704, 357, 362, 367, 371, 375, 378, 708, 712, 716, 720, 724, 727, 382, 386, 390, 393, 400, 404, 408, 411, 415, 419, 731, 735, 739, 742, 745, 749, 423, 427, 431, 753, 435, 439, 443, 757, 761, 765, 449, 453, 457, 461, 769, 773, 465, 469, 473, 777, 781, 785, 477, 789, 481, 485, 793, 489, 493, 497, 501, 505, 797, 509, 513, 516, 801, 520, 524, 805, 529, 809, 533, 537, 541, 813] (by decide +kernel) (by decide +kernel) w h).1
theorem inlX0 : ∀ w ∈ wsX00, w ∈ wsL_law := fun _ h => List.mem_append_left _ (List.mem_append_left _ (List.mem_append_left _ (List.mem_append_right _ h)))
theorem inX0 : ∀ w ∈ wsX00, w ∈ lw_tbl := fun w h => wsL_law_in w (inlX0 w h)
theorem inlX1 : ∀ w ∈ wsX10, w ∈ wsL_law := fun _ h => List.mem_append_left _ (List.mem_append_right _ h)
theorem inX1 : ∀ w ∈ wsX10, w ∈ lw_tbl := fun w h => wsL_law_in w (inlX1 w h)
theorem inlX2 : ∀ w ∈ wsX20, w ∈ wsL_law := fun _ h => List.mem_append_left _ (List.mem_append_left _ (List.mem_append_left _ (List.mem_append_left _ (List.mem_append_right _ h))))
theorem inX2 : ∀ w ∈ wsX20, w ∈ lw_tbl := fun w h => wsL_law_in w (inlX2 w h)
theorem inlX3 : ∀ w ∈ wsX30, w ∈ wsL_law := fun _ h => List.mem_append_left _ (List.mem_append_left _ (List.mem_append_right _ h))
theorem inX3 : ∀ w ∈ wsX30, w ∈ lw_tbl := fun w h => wsL_law_in w (inlX3 w h)
theorem inlX4 : ∀ w ∈ wsX40, w ∈ wsL_law := fun _ h => List.mem_append_left _ (List.mem_append_left _ (List.mem_append_left _ (List.mem_append_left _ (List.mem_append_left _ (List.mem_append_left _ (List.mem_append_right _ h))))))
theorem inX4 : ∀ w ∈ wsX40, w ∈ lw_tbl := fun w h => wsL_law_in w (inlX4 w h)
theorem inlX5 : ∀ w ∈ wsX50, w ∈ wsL_law := fun _ h => List.mem_append_left _ (List.mem_append_left _ (List.mem_append_left _ (List.mem_append_left _ (List.mem_append_left _ (List.mem_append_right _ h)))))
theorem inX5 : ∀ w ∈ wsX50, w ∈ lw_tbl := fun w h => wsL_law_in w (inlX5 w h)
theorem inJ6 : ∀ w ∈ wsJ60, w ∈ lw_tbl := by decide +kernel
theorem inJ9 : ∀ w ∈ wsJ90, w ∈ lw_tbl := by decide +kernel
theorem inJ10 : ∀ w ∈ wsJ100, w ∈ lw_tbl := by decide +kernel
abbrev vwCl : List vw_C := [(RX0, TX0, 11), (RX1, TX1, 3), (RX2, TX2, 5), (RX3, TX3, 13), (RX4, TX4, 7), (RX5, TX5, 26)]
