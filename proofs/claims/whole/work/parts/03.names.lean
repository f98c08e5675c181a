/-! ===== BEGIN printed: names, fields, word lists, decode rows ===== -/
def RX0 : String := "DieRegister$Coin"
def TX0 : u_T := fun k => match k with
  | 0 => ("DieRegister$Coin", "number", "I", true)
  | 1 => ("DieRegister$Coin", "die", "LDieRegister$Die;", true)
  | 2 => ("DieRegister$Coin", "defects", "I", true)
  | 3 => ("DieRegister$Coin", "owner", "LDieRegister$Collector;", false)
  | 4 => ("DieRegister$Coin", "melted", "Z", false)
  | _ => ("DieRegister$Coin", "marked", "Z", false)
def tyX0 : Nat → FieldType := fun k => match k with
  | 0 => .int
  | 1 => .object "DieRegister$Die"
  | 2 => .int
  | 3 => .object "DieRegister$Collector"
  | 4 => .boolean
  | _ => .boolean
theorem nmX0 : ∀ a, a < 6 → ∀ b, b < 6 → a ≠ b → (TX0 a).2.1 ≠ (TX0 b).2.1 := by decide +kernel
theorem tyX0_ok : ∀ k, k < 6 → parseFieldDescriptor (TX0 k).2.2.1 = some (tyX0 k) := by decide +kernel
abbrev cX0_init : ByteArray := prog_2_method_1_code
def yX0_init : MethodName := ⟨RX0, "<init>", "(ILDieRegister$Die;)V"⟩
abbrev cX0_isGenuine : ByteArray := prog_2_method_2_code
def yX0_isGenuine : MethodName := ⟨RX0, "isGenuine", "()Z"⟩
abbrev cX0_priceNow : ByteArray := prog_2_method_3_code
def yX0_priceNow : MethodName := ⟨RX0, "priceNow", "()I"⟩
abbrev cX0_ownerNumber : ByteArray := prog_2_method_4_code
def yX0_ownerNumber : MethodName := ⟨RX0, "ownerNumber", "()I"⟩
def RX1 : String := "DieRegister$Collector"
def TX1 : u_T := fun k => match k with
  | 0 => ("DieRegister$Collector", "number", "I", true)
  | 1 => ("DieRegister$Collector", "wanted", "I", false)
  | 2 => ("DieRegister$Collector", "fairness", "I", false)
  | 3 => ("DieRegister$Collector", "owned", "Ljava/util/ArrayList;", true)
  | _ => ("DieRegister$Collector", "offered", "Ljava/util/ArrayList;", true)
def tyX1 : Nat → FieldType := fun k => match k with
  | 0 => .int
  | 1 => .int
  | 2 => .int
  | 3 => .object "java/util/ArrayList"
  | _ => .object "java/util/ArrayList"
theorem nmX1 : ∀ a, a < 5 → ∀ b, b < 5 → a ≠ b → (TX1 a).2.1 ≠ (TX1 b).2.1 := by decide +kernel
theorem tyX1_ok : ∀ k, k < 5 → parseFieldDescriptor (TX1 k).2.2.1 = some (tyX1 k) := by decide +kernel
abbrev cX1_init : ByteArray := prog_3_method_1_code
def yX1_init : MethodName := ⟨RX1, "<init>", "(I)V"⟩
abbrev cX1_gain : ByteArray := prog_3_method_2_code
def yX1_gain : MethodName := ⟨RX1, "gain", "(LDieRegister$Coin;)V"⟩
abbrev cX1_lose : ByteArray := prog_3_method_3_code
def yX1_lose : MethodName := ⟨RX1, "lose", "(LDieRegister$Coin;)V"⟩
abbrev cX1_listOffers : ByteArray := prog_3_method_4_code
def yX1_listOffers : MethodName := ⟨RX1, "listOffers", "(Ljava/util/ArrayList;)V"⟩
abbrev cX1_lowestOffered : ByteArray := prog_3_method_5_code
def yX1_lowestOffered : MethodName := ⟨RX1, "lowestOffered", "(LDieRegister$Die;)LDieRegister$Coin;"⟩
abbrev cX1_countDearerThan : ByteArray := prog_3_method_6_code
def yX1_countDearerThan : MethodName := ⟨RX1, "countDearerThan", "(LDieRegister$Coin;)I"⟩
abbrev cX1_isAfter : ByteArray := prog_3_method_7_code
def yX1_isAfter : MethodName := ⟨RX1, "isAfter", "(LDieRegister$Die;)Z"⟩
abbrev cX1_isContentWith : ByteArray := prog_3_method_8_code
def yX1_isContentWith : MethodName := ⟨RX1, "isContentWith", "(LDieRegister$Coin;LDieRegister$Coin;)Z"⟩
def RX2 : String := "DieRegister$Die"
def TX2 : u_T := fun k => match k with
  | 0 => ("DieRegister$Die", "number", "I", true)
  | 1 => ("DieRegister$Die", "type", "I", true)
  | 2 => ("DieRegister$Die", "value", "I", true)
  | 3 => ("DieRegister$Die", "defects", "I", false)
  | 4 => ("DieRegister$Die", "condemned", "Z", false)
  | 5 => ("DieRegister$Die", "trueCoins", "I", false)
  | _ => ("DieRegister$Die", "coins", "Ljava/util/ArrayList;", true)
def tyX2 : Nat → FieldType := fun k => match k with
  | 0 => .int
  | 1 => .int
  | 2 => .int
  | 3 => .int
  | 4 => .boolean
  | 5 => .int
  | _ => .object "java/util/ArrayList"
theorem nmX2 : ∀ a, a < 7 → ∀ b, b < 7 → a ≠ b → (TX2 a).2.1 ≠ (TX2 b).2.1 := by decide +kernel
theorem tyX2_ok : ∀ k, k < 7 → parseFieldDescriptor (TX2 k).2.2.1 = some (tyX2 k) := by decide +kernel
abbrev cX2_init : ByteArray := prog_4_method_1_code
def yX2_init : MethodName := ⟨RX2, "<init>", "(III)V"⟩
abbrev cX2_valueOf : ByteArray := prog_4_method_2_code
def yX2_valueOf : MethodName := ⟨RX2, "valueOf", "(I)I"⟩
abbrev cX2_bit : ByteArray := prog_4_method_3_code
def yX2_bit : MethodName := ⟨RX2, "bit", "()I"⟩
abbrev cX2_firstCoin : ByteArray := prog_4_method_4_code
def yX2_firstCoin : MethodName := ⟨RX2, "firstCoin", "()LDieRegister$Coin;"⟩
abbrev cX2_firstOfStage : ByteArray := prog_4_method_5_code
def yX2_firstOfStage : MethodName := ⟨RX2, "firstOfStage", "(I)LDieRegister$Coin;"⟩
abbrev cX2_countStages : ByteArray := prog_4_method_6_code
def yX2_countStages : MethodName := ⟨RX2, "countStages", "()I"⟩
abbrev cX2_priceOfTrueCoins : ByteArray := prog_4_method_7_code
def yX2_priceOfTrueCoins : MethodName := ⟨RX2, "priceOfTrueCoins", "()I"⟩
def RX3 : String := "DieRegister$Ring"
def TX3 : u_T := fun k => match k with
  | 0 => ("DieRegister$Ring", "givers", "Ljava/util/ArrayList;", true)
  | _ => ("DieRegister$Ring", "gifts", "Ljava/util/ArrayList;", true)
def tyX3 : Nat → FieldType := fun k => match k with
  | 0 => .object "java/util/ArrayList"
  | _ => .object "java/util/ArrayList"
theorem nmX3 : ∀ a, a < 2 → ∀ b, b < 2 → a ≠ b → (TX3 a).2.1 ≠ (TX3 b).2.1 := by decide +kernel
theorem tyX3_ok : ∀ k, k < 2 → parseFieldDescriptor (TX3 k).2.2.1 = some (tyX3 k) := by decide +kernel
abbrev cX3_init : ByteArray := prog_5_method_1_code
def yX3_init : MethodName := ⟨RX3, "<init>", "()V"⟩
abbrev cX3_length : ByteArray := prog_5_method_2_code
def yX3_length : MethodName := ⟨RX3, "length", "()I"⟩
abbrev cX3_empty : ByteArray := prog_5_method_3_code
def yX3_empty : MethodName := ⟨RX3, "empty", "()V"⟩
abbrev cX3_add : ByteArray := prog_5_method_4_code
def yX3_add : MethodName := ⟨RX3, "add", "(LDieRegister$Collector;LDieRegister$Coin;)V"⟩
abbrev cX3_removeLast : ByteArray := prog_5_method_5_code
def yX3_removeLast : MethodName := ⟨RX3, "removeLast", "()V"⟩
abbrev cX3_mayBeJoinedBy : ByteArray := prog_5_method_6_code
def yX3_mayBeJoinedBy : MethodName := ⟨RX3, "mayBeJoinedBy", "(LDieRegister$Collector;)Z"⟩
abbrev cX3_pleases : ByteArray := prog_5_method_7_code
def yX3_pleases : MethodName := ⟨RX3, "pleases", "(LDieRegister$Collector;LDieRegister$Coin;)Z"⟩
abbrev cX3_closes : ByteArray := prog_5_method_8_code
def yX3_closes : MethodName := ⟨RX3, "closes", "()Z"⟩
abbrev cX3_handOver : ByteArray := prog_5_method_9_code
def yX3_handOver : MethodName := ⟨RX3, "handOver", "()V"⟩
abbrev cX3_tell : ByteArray := prog_5_method_10_code
def yX3_tell : MethodName := ⟨RX3, "tell", "(I)I"⟩
abbrev cX3_hasFalseGift : ByteArray := prog_5_method_11_code
def yX3_hasFalseGift : MethodName := ⟨RX3, "hasFalseGift", "()Z"⟩
def RX4 : String := "DieRegister"
def TX4 : u_T := fun k => match k with
  | 0 => ("DieRegister", "dies", "Ljava/util/ArrayList;", true)
  | 1 => ("DieRegister", "coins", "Ljava/util/ArrayList;", true)
  | 2 => ("DieRegister", "collectors", "[LDieRegister$Collector;", true)
  | 3 => ("DieRegister", "swapped", "Ljava/util/ArrayList;", true)
  | _ => ("DieRegister", "ready", "LDieRegister$Ring;", false)
def tyX4 : Nat → FieldType := fun k => match k with
  | 0 => .object "java/util/ArrayList"
  | 1 => .object "java/util/ArrayList"
  | 2 => .array (.object "DieRegister$Collector")
  | 3 => .object "java/util/ArrayList"
  | _ => .object "DieRegister$Ring"
theorem nmX4 : ∀ a, a < 5 → ∀ b, b < 5 → a ≠ b → (TX4 a).2.1 ≠ (TX4 b).2.1 := by decide +kernel
theorem tyX4_ok : ∀ k, k < 5 → parseFieldDescriptor (TX4 k).2.2.1 = some (tyX4 k) := by decide +kernel
abbrev cX4_init : ByteArray := prog_1_method_1_code
def yX4_init : MethodName := ⟨RX4, "<init>", "()V"⟩
abbrev cX4_addDie : ByteArray := prog_1_method_2_code
def yX4_addDie : MethodName := ⟨RX4, "addDie", "(I)I"⟩
abbrev cX4_crack : ByteArray := prog_1_method_3_code
def yX4_crack : MethodName := ⟨RX4, "crack", "(II)I"⟩
abbrev cX4_strike : ByteArray := prog_1_method_4_code
def yX4_strike : MethodName := ⟨RX4, "strike", "(II)I"⟩
abbrev cX4_cast : ByteArray := prog_1_method_5_code
def yX4_cast : MethodName := ⟨RX4, "cast", "(I)I"⟩
abbrev cX4_melt : ByteArray := prog_1_method_6_code
def yX4_melt : MethodName := ⟨RX4, "melt", "(I)I"⟩
abbrev cX4_struck : ByteArray := prog_1_method_7_code
def yX4_struck : MethodName := ⟨RX4, "struck", "()I"⟩
abbrev cX4_defects : ByteArray := prog_1_method_8_code
def yX4_defects : MethodName := ⟨RX4, "defects", "(I)I"⟩
abbrev cX4_couldBeOf : ByteArray := prog_1_method_9_code
def yX4_couldBeOf : MethodName := ⟨RX4, "couldBeOf", "(I)I"⟩
abbrev cX4_stages : ByteArray := prog_1_method_10_code
def yX4_stages : MethodName := ⟨RX4, "stages", "(I)I"⟩
abbrev cX4_proof : ByteArray := prog_1_method_11_code
def yX4_proof : MethodName := ⟨RX4, "proof", "(I)I"⟩
abbrev cX4_condemn : ByteArray := prog_1_method_12_code
def yX4_condemn : MethodName := ⟨RX4, "condemn", "(I)I"⟩
abbrev cX4_isCondemned : ByteArray := prog_1_method_13_code
def yX4_isCondemned : MethodName := ⟨RX4, "isCondemned", "(I)Z"⟩
abbrev cX4_isTrue : ByteArray := prog_1_method_14_code
def yX4_isTrue : MethodName := ⟨RX4, "isTrue", "(I)Z"⟩
abbrev cX4_rarity : ByteArray := prog_1_method_15_code
def yX4_rarity : MethodName := ⟨RX4, "rarity", "(I)I"⟩
abbrev cX4_rarityByCoins : ByteArray := prog_1_method_16_code
def yX4_rarityByCoins : MethodName := ⟨RX4, "rarityByCoins", "(I)I"⟩
abbrev cX4_price : ByteArray := prog_1_method_17_code
def yX4_price : MethodName := ⟨RX4, "price", "(I)I"⟩
abbrev cX4_give : ByteArray := prog_1_method_18_code
def yX4_give : MethodName := ⟨RX4, "give", "(II)I"⟩
abbrev cX4_want : ByteArray := prog_1_method_19_code
def yX4_want : MethodName := ⟨RX4, "want", "(IIZ)I"⟩
abbrev cX4_setFairness : ByteArray := prog_1_method_20_code
def yX4_setFairness : MethodName := ⟨RX4, "setFairness", "(II)I"⟩
abbrev cX4_mark : ByteArray := prog_1_method_21_code
def yX4_mark : MethodName := ⟨RX4, "mark", "(IZ)Z"⟩
abbrev cX4_owner : ByteArray := prog_1_method_22_code
def yX4_owner : MethodName := ⟨RX4, "owner", "(I)I"⟩
abbrev cX4_wants : ByteArray := prog_1_method_23_code
def yX4_wants : MethodName := ⟨RX4, "wants", "(I)I"⟩
abbrev cX4_offers : ByteArray := prog_1_method_24_code
def yX4_offers : MethodName := ⟨RX4, "offers", "(I)I"⟩
abbrev cX4_worth : ByteArray := prog_1_method_25_code
def yX4_worth : MethodName := ⟨RX4, "worth", "(I)I"⟩
abbrev cX4_coinAt : ByteArray := prog_1_method_26_code
def yX4_coinAt : MethodName := ⟨RX4, "coinAt", "(II)I"⟩
abbrev cX4_ring : ByteArray := prog_1_method_27_code
def yX4_ring : MethodName := ⟨RX4, "ring", "()I"⟩
abbrev cX4_ringAt : ByteArray := prog_1_method_28_code
def yX4_ringAt : MethodName := ⟨RX4, "ringAt", "(I)I"⟩
abbrev cX4_swap : ByteArray := prog_1_method_29_code
def yX4_swap : MethodName := ⟨RX4, "swap", "()I"⟩
abbrev cX4_swaps : ByteArray := prog_1_method_30_code
def yX4_swaps : MethodName := ⟨RX4, "swaps", "()I"⟩
abbrev cX4_swapAt : ByteArray := prog_1_method_31_code
def yX4_swapAt : MethodName := ⟨RX4, "swapAt", "(II)I"⟩
abbrev cX4_spoiled : ByteArray := prog_1_method_32_code
def yX4_spoiled : MethodName := ⟨RX4, "spoiled", "()I"⟩
abbrev cX4_theDie : ByteArray := prog_1_method_33_code
def yX4_theDie : MethodName := ⟨RX4, "theDie", "(I)LDieRegister$Die;"⟩
abbrev cX4_theCoin : ByteArray := prog_1_method_34_code
def yX4_theCoin : MethodName := ⟨RX4, "theCoin", "(I)LDieRegister$Coin;"⟩
abbrev cX4_theCollector : ByteArray := prog_1_method_35_code
def yX4_theCollector : MethodName := ⟨RX4, "theCollector", "(I)LDieRegister$Collector;"⟩
abbrev cX4_newDie : ByteArray := prog_1_method_36_code
def yX4_newDie : MethodName := ⟨RX4, "newDie", "(II)I"⟩
abbrev cX4_provedSource : ByteArray := prog_1_method_37_code
def yX4_provedSource : MethodName := ⟨RX4, "provedSource", "(LDieRegister$Die;)I"⟩
abbrev cX4_findRing : ByteArray := prog_1_method_38_code
def yX4_findRing : MethodName := ⟨RX4, "findRing", "()V"⟩
abbrev cX4_lengthen : ByteArray := prog_1_method_39_code
def yX4_lengthen : MethodName := ⟨RX4, "lengthen", "([LDieRegister$Collector;LDieRegister$Ring;II)Z"⟩
def RX5 : String := "DieRegisterModel"
def TX5 : u_T := fun k => match k with
  | 0 => ("DieRegisterModel", "dies", "I", false)
  | 1 => ("DieRegisterModel", "types", "[I", true)
  | 2 => ("DieRegisterModel", "defects", "[I", true)
  | 3 => ("DieRegisterModel", "strikes", "[I", true)
  | 4 => ("DieRegisterModel", "condemned", "[I", true)
  | 5 => ("DieRegisterModel", "coins", "I", false)
  | 6 => ("DieRegisterModel", "ofDie", "[I", true)
  | 7 => ("DieRegisterModel", "coinDefects", "[I", true)
  | 8 => ("DieRegisterModel", "melted", "[I", true)
  | 9 => ("DieRegisterModel", "owners", "[I", true)
  | 10 => ("DieRegisterModel", "marked", "[I", true)
  | 11 => ("DieRegisterModel", "wanted", "[I", true)
  | 12 => ("DieRegisterModel", "fairness", "[I", true)
  | 13 => ("DieRegisterModel", "swaps", "I", false)
  | 14 => ("DieRegisterModel", "swapSizes", "[I", true)
  | 15 => ("DieRegisterModel", "given", "[I", true)
  | 16 => ("DieRegisterModel", "ring", "[I", true)
  | _ => ("DieRegisterModel", "thrown", "I", false)
def tyX5 : Nat → FieldType := fun k => match k with
  | 0 => .int
  | 1 => .array .int
  | 2 => .array .int
  | 3 => .array .int
  | 4 => .array .int
  | 5 => .int
  | 6 => .array .int
  | 7 => .array .int
  | 8 => .array .int
  | 9 => .array .int
  | 10 => .array .int
  | 11 => .array .int
  | 12 => .array .int
  | 13 => .int
  | 14 => .array .int
  | 15 => .array .int
  | 16 => .array .int
  | _ => .int
theorem nmX5 : ∀ a, a < 18 → ∀ b, b < 18 → a ≠ b → (TX5 a).2.1 ≠ (TX5 b).2.1 := by decide +kernel
theorem tyX5_ok : ∀ k, k < 18 → parseFieldDescriptor (TX5 k).2.2.1 = some (tyX5 k) := by decide +kernel
abbrev cX5_init : ByteArray := prog_7_method_1_code
def yX5_init : MethodName := ⟨RX5, "<init>", "()V"⟩
abbrev cX5_thrown : ByteArray := prog_7_method_2_code
def yX5_thrown : MethodName := ⟨RX5, "thrown", "()I"⟩
abbrev cX5_in : ByteArray := prog_7_method_3_code
def yX5_in : MethodName := ⟨RX5, "in", "(III)Z"⟩
abbrev cX5_isDie : ByteArray := prog_7_method_4_code
def yX5_isDie : MethodName := ⟨RX5, "isDie", "(I)Z"⟩
abbrev cX5_isCoin : ByteArray := prog_7_method_5_code
def yX5_isCoin : MethodName := ⟨RX5, "isCoin", "(I)Z"⟩
abbrev cX5_isCollector : ByteArray := prog_7_method_6_code
def yX5_isCollector : MethodName := ⟨RX5, "isCollector", "(I)Z"⟩
abbrev cX5_count : ByteArray := prog_7_method_7_code
def yX5_count : MethodName := ⟨RX5, "count", "(I)I"⟩
abbrev cX5_addDie : ByteArray := prog_7_method_8_code
def yX5_addDie : MethodName := ⟨RX5, "addDie", "(I)I"⟩
abbrev cX5_crack : ByteArray := prog_7_method_9_code
def yX5_crack : MethodName := ⟨RX5, "crack", "(II)I"⟩
abbrev cX5_strike : ByteArray := prog_7_method_10_code
def yX5_strike : MethodName := ⟨RX5, "strike", "(II)I"⟩
abbrev cX5_cast : ByteArray := prog_7_method_11_code
def yX5_cast : MethodName := ⟨RX5, "cast", "(I)I"⟩
abbrev cX5_melt : ByteArray := prog_7_method_12_code
def yX5_melt : MethodName := ⟨RX5, "melt", "(I)I"⟩
abbrev cX5_struck : ByteArray := prog_7_method_13_code
def yX5_struck : MethodName := ⟨RX5, "struck", "()I"⟩
abbrev cX5_defects : ByteArray := prog_7_method_14_code
def yX5_defects : MethodName := ⟨RX5, "defects", "(I)I"⟩
abbrev cX5_firstOf : ByteArray := prog_7_method_15_code
def yX5_firstOf : MethodName := ⟨RX5, "firstOf", "(II)I"⟩
abbrev cX5_couldBeOf : ByteArray := prog_7_method_16_code
def yX5_couldBeOf : MethodName := ⟨RX5, "couldBeOf", "(I)I"⟩
abbrev cX5_stages : ByteArray := prog_7_method_17_code
def yX5_stages : MethodName := ⟨RX5, "stages", "(I)I"⟩
abbrev cX5_proofOf : ByteArray := prog_7_method_18_code
def yX5_proofOf : MethodName := ⟨RX5, "proofOf", "(I)I"⟩
abbrev cX5_proof : ByteArray := prog_7_method_19_code
def yX5_proof : MethodName := ⟨RX5, "proof", "(I)I"⟩
abbrev cX5_isTrueNow : ByteArray := prog_7_method_20_code
def yX5_isTrueNow : MethodName := ⟨RX5, "isTrueNow", "(I)Z"⟩
abbrev cX5_rarityOf : ByteArray := prog_7_method_21_code
def yX5_rarityOf : MethodName := ⟨RX5, "rarityOf", "(I)I"⟩
abbrev cX5_condemn : ByteArray := prog_7_method_22_code
def yX5_condemn : MethodName := ⟨RX5, "condemn", "(I)I"⟩
abbrev cX5_isCondemned : ByteArray := prog_7_method_23_code
def yX5_isCondemned : MethodName := ⟨RX5, "isCondemned", "(I)Z"⟩
abbrev cX5_isTrue : ByteArray := prog_7_method_24_code
def yX5_isTrue : MethodName := ⟨RX5, "isTrue", "(I)Z"⟩
abbrev cX5_rarity : ByteArray := prog_7_method_25_code
def yX5_rarity : MethodName := ⟨RX5, "rarity", "(I)I"⟩
abbrev cX5_rarityByCoins : ByteArray := prog_7_method_26_code
def yX5_rarityByCoins : MethodName := ⟨RX5, "rarityByCoins", "(I)I"⟩
abbrev cX5_priceBy : ByteArray := prog_7_method_27_code
def yX5_priceBy : MethodName := ⟨RX5, "priceBy", "(I)I"⟩
abbrev cX5_priceOf : ByteArray := prog_7_method_28_code
def yX5_priceOf : MethodName := ⟨RX5, "priceOf", "(I)I"⟩
abbrev cX5_price : ByteArray := prog_7_method_29_code
def yX5_price : MethodName := ⟨RX5, "price", "(I)I"⟩
abbrev cX5_owned : ByteArray := prog_7_method_30_code
def yX5_owned : MethodName := ⟨RX5, "owned", "(I)I"⟩
abbrev cX5_gets : ByteArray := prog_7_method_31_code
def yX5_gets : MethodName := ⟨RX5, "gets", "(II)V"⟩
abbrev cX5_give : ByteArray := prog_7_method_32_code
def yX5_give : MethodName := ⟨RX5, "give", "(II)I"⟩
abbrev cX5_want : ByteArray := prog_7_method_33_code
def yX5_want : MethodName := ⟨RX5, "want", "(IIZ)I"⟩
abbrev cX5_setFairness : ByteArray := prog_7_method_34_code
def yX5_setFairness : MethodName := ⟨RX5, "setFairness", "(II)I"⟩
abbrev cX5_mark : ByteArray := prog_7_method_35_code
def yX5_mark : MethodName := ⟨RX5, "mark", "(IZ)Z"⟩
abbrev cX5_owner : ByteArray := prog_7_method_36_code
def yX5_owner : MethodName := ⟨RX5, "owner", "(I)I"⟩
abbrev cX5_wants : ByteArray := prog_7_method_37_code
def yX5_wants : MethodName := ⟨RX5, "wants", "(I)I"⟩
abbrev cX5_offer : ByteArray := prog_7_method_38_code
def yX5_offer : MethodName := ⟨RX5, "offer", "(II)I"⟩
abbrev cX5_offers : ByteArray := prog_7_method_39_code
def yX5_offers : MethodName := ⟨RX5, "offers", "(I)I"⟩
abbrev cX5_worth : ByteArray := prog_7_method_40_code
def yX5_worth : MethodName := ⟨RX5, "worth", "(I)I"⟩
abbrev cX5_coinAt : ByteArray := prog_7_method_41_code
def yX5_coinAt : MethodName := ⟨RX5, "coinAt", "(II)I"⟩
abbrev cX5_takes : ByteArray := prog_7_method_42_code
def yX5_takes : MethodName := ⟨RX5, "takes", "(II)Z"⟩
abbrev cX5_canFollow : ByteArray := prog_7_method_43_code
def yX5_canFollow : MethodName := ⟨RX5, "canFollow", "(I)Z"⟩
abbrev cX5_findsFrom : ByteArray := prog_7_method_44_code
def yX5_findsFrom : MethodName := ⟨RX5, "findsFrom", "(II)Z"⟩
abbrev cX5_finds : ByteArray := prog_7_method_45_code
def yX5_finds : MethodName := ⟨RX5, "finds", "()I"⟩
abbrev cX5_ring : ByteArray := prog_7_method_46_code
def yX5_ring : MethodName := ⟨RX5, "ring", "()I"⟩
abbrev cX5_told : ByteArray := prog_7_method_47_code
def yX5_told : MethodName := ⟨RX5, "told", "(I)I"⟩
abbrev cX5_ringAt : ByteArray := prog_7_method_48_code
def yX5_ringAt : MethodName := ⟨RX5, "ringAt", "(I)I"⟩
abbrev cX5_swap : ByteArray := prog_7_method_49_code
def yX5_swap : MethodName := ⟨RX5, "swap", "()I"⟩
abbrev cX5_swaps : ByteArray := prog_7_method_50_code
def yX5_swaps : MethodName := ⟨RX5, "swaps", "()I"⟩
abbrev cX5_swapAt : ByteArray := prog_7_method_51_code
def yX5_swapAt : MethodName := ⟨RX5, "swapAt", "(II)I"⟩
abbrev cX5_spoiled : ByteArray := prog_7_method_52_code
def yX5_spoiled : MethodName := ⟨RX5, "spoiled", "()I"⟩
def RJx145de : String := "java/io/Serializable"
def TJx145de : u_T := fun k => match k with
  | _ => ("", "", "", false)
def tyJx145de : Nat → FieldType := fun k => match k with
  | _ => .int
theorem nmJx145de : ∀ a, a < 0 → ∀ b, b < 0 → a ≠ b → (TJx145de a).2.1 ≠ (TJx145de b).2.1 := by decide +kernel
theorem tyJx145de_ok : ∀ k, k < 0 → parseFieldDescriptor (TJx145de k).2.2.1 = some (tyJx145de k) := by decide +kernel
def RJx8e188 : String := "java/lang/Cloneable"
def TJx8e188 : u_T := fun k => match k with
  | _ => ("", "", "", false)
def tyJx8e188 : Nat → FieldType := fun k => match k with
  | _ => .int
theorem nmJx8e188 : ∀ a, a < 0 → ∀ b, b < 0 → a ≠ b → (TJx8e188 a).2.1 ≠ (TJx8e188 b).2.1 := by decide +kernel
theorem tyJx8e188_ok : ∀ k, k < 0 → parseFieldDescriptor (TJx8e188 k).2.2.1 = some (tyJx8e188 k) := by decide +kernel
def RJ6 : String := "java/lang/Integer"
def TJ6 : u_T := fun k => match k with
  | _ => ("", "", "", false)
def tyJ6 : Nat → FieldType := fun k => match k with
  | _ => .int
theorem nmJ6 : ∀ a, a < 0 → ∀ b, b < 0 → a ≠ b → (TJ6 a).2.1 ≠ (TJ6 b).2.1 := by decide +kernel
theorem tyJ6_ok : ∀ k, k < 0 → parseFieldDescriptor (TJ6 k).2.2.1 = some (tyJ6 k) := by decide +kernel
abbrev cJ6_bitCount_0f7a4 : ByteArray := prog_14_method_49_code
def yJ6_bitCount_0f7a4 : MethodName := ⟨RJ6, "bitCount", "(I)I"⟩
def RJxab1ab : String := "java/lang/Iterable"
def TJxab1ab : u_T := fun k => match k with
  | _ => ("", "", "", false)
def tyJxab1ab : Nat → FieldType := fun k => match k with
  | _ => .int
theorem nmJxab1ab : ∀ a, a < 0 → ∀ b, b < 0 → a ≠ b → (TJxab1ab a).2.1 ≠ (TJxab1ab b).2.1 := by decide +kernel
theorem tyJxab1ab_ok : ∀ k, k < 0 → parseFieldDescriptor (TJxab1ab k).2.2.1 = some (tyJxab1ab k) := by decide +kernel
def RJ9 : String := "java/lang/Math"
def TJ9 : u_T := fun k => match k with
  | _ => ("", "", "", false)
def tyJ9 : Nat → FieldType := fun k => match k with
  | _ => .int
theorem nmJ9 : ∀ a, a < 0 → ∀ b, b < 0 → a ≠ b → (TJ9 a).2.1 ≠ (TJ9 b).2.1 := by decide +kernel
theorem tyJ9_ok : ∀ k, k < 0 → parseFieldDescriptor (TJ9 k).2.2.1 = some (tyJ9 k) := by decide +kernel
abbrev cJ9_max_7cf53 : ByteArray := prog_16_method_65_code
def yJ9_max_7cf53 : MethodName := ⟨RJ9, "max", "(II)I"⟩
abbrev cJ9_min_7cf53 : ByteArray := prog_16_method_69_code
def yJ9_min_7cf53 : MethodName := ⟨RJ9, "min", "(II)I"⟩
def RJ0 : String := "java/lang/String"
def TJ0 : u_T := fun k => match k with
  | _ => ("", "", "", false)
def tyJ0 : Nat → FieldType := fun k => match k with
  | _ => .int
theorem nmJ0 : ∀ a, a < 0 → ∀ b, b < 0 → a ≠ b → (TJ0 a).2.1 ≠ (TJ0 b).2.1 := by decide +kernel
theorem tyJ0_ok : ∀ k, k < 0 → parseFieldDescriptor (TJ0 k).2.2.1 = some (tyJ0 k) := by decide +kernel
def RJ10 : String := "java/lang/System"
def TJ10 : u_T := fun k => match k with
  | _ => ("", "", "", false)
def tyJ10 : Nat → FieldType := fun k => match k with
  | _ => .int
theorem nmJ10 : ∀ a, a < 0 → ∀ b, b < 0 → a ≠ b → (TJ10 a).2.1 ≠ (TJ10 b).2.1 := by decide +kernel
theorem tyJ10_ok : ∀ k, k < 0 → parseFieldDescriptor (TJ10 k).2.2.1 = some (tyJ10 k) := by decide +kernel
def RJxa1e45 : String := "java/util/AbstractCollection"
def TJxa1e45 : u_T := fun k => match k with
  | _ => ("", "", "", false)
def tyJxa1e45 : Nat → FieldType := fun k => match k with
  | _ => .int
theorem nmJxa1e45 : ∀ a, a < 0 → ∀ b, b < 0 → a ≠ b → (TJxa1e45 a).2.1 ≠ (TJxa1e45 b).2.1 := by decide +kernel
theorem tyJxa1e45_ok : ∀ k, k < 0 → parseFieldDescriptor (TJxa1e45 k).2.2.1 = some (tyJxa1e45 k) := by decide +kernel
abbrev cJxa1e45_init_da8c8 : ByteArray := prog_21_method_1_code
def yJxa1e45_init_da8c8 : MethodName := ⟨RJxa1e45, "<init>", "()V"⟩
def RJxc12de : String := "java/util/AbstractList"
def TJxc12de : u_T := fun k => match k with
  | _ => ("", "", "", false)
def tyJxc12de : Nat → FieldType := fun k => match k with
  | _ => .int
theorem nmJxc12de : ∀ a, a < 0 → ∀ b, b < 0 → a ≠ b → (TJxc12de a).2.1 ≠ (TJxc12de b).2.1 := by decide +kernel
theorem tyJxc12de_ok : ∀ k, k < 0 → parseFieldDescriptor (TJxc12de k).2.2.1 = some (tyJxc12de k) := by decide +kernel
abbrev cJxc12de_init_da8c8 : ByteArray := prog_22_method_1_code
def yJxc12de_init_da8c8 : MethodName := ⟨RJxc12de, "<init>", "()V"⟩
def RJx4a65c : String := "java/util/ArrayList"
def TJx4a65c : u_T := fun k => match k with
  | 0 => ("java/util/AbstractList", "modCount", "I", false)
  | 1 => ("java/util/ArrayList", "elementData", "[Ljava/lang/Object;", false)
  | _ => ("java/util/ArrayList", "size", "I", false)
def tyJx4a65c : Nat → FieldType := fun k => match k with
  | 0 => .int
  | 1 => .array (.object "java/lang/Object")
  | _ => .int
theorem nmJx4a65c : ∀ a, a < 3 → ∀ b, b < 3 → a ≠ b → (TJx4a65c a).2.1 ≠ (TJx4a65c b).2.1 := by decide +kernel
theorem tyJx4a65c_ok : ∀ k, k < 3 → parseFieldDescriptor (TJx4a65c k).2.2.1 = some (tyJx4a65c k) := by decide +kernel
abbrev cJx4a65c_init_da8c8 : ByteArray := prog_23_method_2_code
def yJx4a65c_init_da8c8 : MethodName := ⟨RJx4a65c, "<init>", "()V"⟩
abbrev cJx4a65c_grow_92f84 : ByteArray := prog_23_method_6_code
def yJx4a65c_grow_92f84 : MethodName := ⟨RJx4a65c, "grow", "(I)[Ljava/lang/Object;"⟩
abbrev cJx4a65c_grow_d5877 : ByteArray := prog_23_method_7_code
def yJx4a65c_grow_d5877 : MethodName := ⟨RJx4a65c, "grow", "()[Ljava/lang/Object;"⟩
abbrev cJx4a65c_size_8abf5 : ByteArray := prog_23_method_8_code
def yJx4a65c_size_8abf5 : MethodName := ⟨RJx4a65c, "size", "()I"⟩
abbrev cJx4a65c_isEmpty_aae02 : ByteArray := prog_23_method_9_code
def yJx4a65c_isEmpty_aae02 : MethodName := ⟨RJx4a65c, "isEmpty", "()Z"⟩
abbrev cJx4a65c_elementData_915e3 : ByteArray := prog_23_method_18_code
def yJx4a65c_elementData_915e3 : MethodName := ⟨RJx4a65c, "elementData", "(I)Ljava/lang/Object;"⟩
abbrev cJx4a65c_get_915e3 : ByteArray := prog_23_method_20_code
def yJx4a65c_get_915e3 : MethodName := ⟨RJx4a65c, "get", "(I)Ljava/lang/Object;"⟩
abbrev cJx4a65c_add_72be8 : ByteArray := prog_23_method_24_code
def yJx4a65c_add_72be8 : MethodName := ⟨RJx4a65c, "add", "(Ljava/lang/Object;[Ljava/lang/Object;I)V"⟩
abbrev cJx4a65c_add_9ea2d : ByteArray := prog_23_method_25_code
def yJx4a65c_add_9ea2d : MethodName := ⟨RJx4a65c, "add", "(Ljava/lang/Object;)Z"⟩
abbrev cJx4a65c_remove_915e3 : ByteArray := prog_23_method_29_code
def yJx4a65c_remove_915e3 : MethodName := ⟨RJx4a65c, "remove", "(I)Ljava/lang/Object;"⟩
abbrev cJx4a65c_fastRemove_b59b0 : ByteArray := prog_23_method_39_code
def yJx4a65c_fastRemove_b59b0 : MethodName := ⟨RJx4a65c, "fastRemove", "([Ljava/lang/Object;I)V"⟩
abbrev cJx4a65c_clear_da8c8 : ByteArray := prog_23_method_40_code
def yJx4a65c_clear_da8c8 : MethodName := ⟨RJx4a65c, "clear", "()V"⟩
def RJ7 : String := "java/util/Arrays"
def TJ7 : u_T := fun k => match k with
  | _ => ("", "", "", false)
def tyJ7 : Nat → FieldType := fun k => match k with
  | _ => .int
theorem nmJ7 : ∀ a, a < 0 → ∀ b, b < 0 → a ≠ b → (TJ7 a).2.1 ≠ (TJ7 b).2.1 := by decide +kernel
theorem tyJ7_ok : ∀ k, k < 0 → parseFieldDescriptor (TJ7 k).2.2.1 = some (tyJ7 k) := by decide +kernel
abbrev cJ7_copyOf_1904c : ByteArray := prog_24_method_119_code
def yJ7_copyOf_1904c : MethodName := ⟨RJ7, "copyOf", "([Ljava/lang/Object;I)[Ljava/lang/Object;"⟩
abbrev cJ7_copyOf_6403c : ByteArray := prog_24_method_120_code
def yJ7_copyOf_6403c : MethodName := ⟨RJ7, "copyOf", "([Ljava/lang/Object;ILjava/lang/Class;)[Ljava/lang/Object;"⟩
def RJx5ef63 : String := "java/util/Collection"
def TJx5ef63 : u_T := fun k => match k with
  | _ => ("", "", "", false)
def tyJx5ef63 : Nat → FieldType := fun k => match k with
  | _ => .int
theorem nmJx5ef63 : ∀ a, a < 0 → ∀ b, b < 0 → a ≠ b → (TJx5ef63 a).2.1 ≠ (TJx5ef63 b).2.1 := by decide +kernel
theorem tyJx5ef63_ok : ∀ k, k < 0 → parseFieldDescriptor (TJx5ef63 k).2.2.1 = some (tyJx5ef63 k) := by decide +kernel
def RJxbd725 : String := "java/util/List"
def TJxbd725 : u_T := fun k => match k with
  | _ => ("", "", "", false)
def tyJxbd725 : Nat → FieldType := fun k => match k with
  | _ => .int
theorem nmJxbd725 : ∀ a, a < 0 → ∀ b, b < 0 → a ≠ b → (TJxbd725 a).2.1 ≠ (TJxbd725 b).2.1 := by decide +kernel
theorem tyJxbd725_ok : ∀ k, k < 0 → parseFieldDescriptor (TJxbd725 k).2.2.1 = some (tyJxbd725 k) := by decide +kernel
def RJ15 : String := "java/util/Objects"
def TJ15 : u_T := fun k => match k with
  | _ => ("", "", "", false)
def tyJ15 : Nat → FieldType := fun k => match k with
  | _ => .int
theorem nmJ15 : ∀ a, a < 0 → ∀ b, b < 0 → a ≠ b → (TJ15 a).2.1 ≠ (TJ15 b).2.1 := by decide +kernel
theorem tyJ15_ok : ∀ k, k < 0 → parseFieldDescriptor (TJ15 k).2.2.1 = some (tyJ15 k) := by decide +kernel
abbrev cJ15_checkIndex_7cf53 : ByteArray := prog_27_method_17_code
def yJ15_checkIndex_7cf53 : MethodName := ⟨RJ15, "checkIndex", "(II)I"⟩
def RJxf0a74 : String := "java/util/RandomAccess"
def TJxf0a74 : u_T := fun k => match k with
  | _ => ("", "", "", false)
def tyJxf0a74 : Nat → FieldType := fun k => match k with
  | _ => .int
theorem nmJxf0a74 : ∀ a, a < 0 → ∀ b, b < 0 → a ≠ b → (TJxf0a74 a).2.1 ≠ (TJxf0a74 b).2.1 := by decide +kernel
theorem tyJxf0a74_ok : ∀ k, k < 0 → parseFieldDescriptor (TJxf0a74 k).2.2.1 = some (tyJxf0a74 k) := by decide +kernel
def RJxa66e6 : String := "java/util/SequencedCollection"
def TJxa66e6 : u_T := fun k => match k with
  | _ => ("", "", "", false)
def tyJxa66e6 : Nat → FieldType := fun k => match k with
  | _ => .int
theorem nmJxa66e6 : ∀ a, a < 0 → ∀ b, b < 0 → a ≠ b → (TJxa66e6 a).2.1 ≠ (TJxa66e6 b).2.1 := by decide +kernel
theorem tyJxa66e6_ok : ∀ k, k < 0 → parseFieldDescriptor (TJxa66e6 k).2.2.1 = some (tyJxa66e6 k) := by decide +kernel
def RJ8 : String := "jdk/internal/util/ArraysSupport"
def TJ8 : u_T := fun k => match k with
  | _ => ("", "", "", false)
def tyJ8 : Nat → FieldType := fun k => match k with
  | _ => .int
theorem nmJ8 : ∀ a, a < 0 → ∀ b, b < 0 → a ≠ b → (TJ8 a).2.1 ≠ (TJ8 b).2.1 := by decide +kernel
theorem tyJ8_ok : ∀ k, k < 0 → parseFieldDescriptor (TJ8 k).2.2.1 = some (tyJ8 k) := by decide +kernel
abbrev cJ8_newLength_cabcc : ByteArray := prog_30_method_27_code
def yJ8_newLength_cabcc : MethodName := ⟨RJ8, "newLength", "(III)I"⟩
abbrev cJ8_hugeLength_7cf53 : ByteArray := prog_30_method_28_code
def yJ8_hugeLength_7cf53 : MethodName := ⟨RJ8, "hugeLength", "(II)I"⟩
def RJ3 : String := "jdk/internal/util/Preconditions"
def TJ3 : u_T := fun k => match k with
  | _ => ("", "", "", false)
def tyJ3 : Nat → FieldType := fun k => match k with
  | _ => .int
theorem nmJ3 : ∀ a, a < 0 → ∀ b, b < 0 → a ≠ b → (TJ3 a).2.1 ≠ (TJ3 b).2.1 := by decide +kernel
theorem tyJ3_ok : ∀ k, k < 0 → parseFieldDescriptor (TJ3 k).2.2.1 = some (tyJ3 k) := by decide +kernel
abbrev cJ3_checkIndex_8e157 : ByteArray := prog_31_method_11_code
def yJ3_checkIndex_8e157 : MethodName := ⟨RJ3, "checkIndex", "(IILjava/util/function/BiFunction;)I"⟩
def RL : String := "DieRegisterLaw"
abbrev cL_addDie : ByteArray := method_3_code
def yL_addDie : MethodName := ⟨RL, "addDie", "(LDieRegister;I[J)I"⟩
abbrev cL_crack : ByteArray := method_4_code
def yL_crack : MethodName := ⟨RL, "crack", "(LDieRegister;II[J)I"⟩
abbrev cL_strike : ByteArray := method_5_code
def yL_strike : MethodName := ⟨RL, "strike", "(LDieRegister;II[J)I"⟩
abbrev cL_cast : ByteArray := method_6_code
def yL_cast : MethodName := ⟨RL, "cast", "(LDieRegister;I[J)I"⟩
abbrev cL_melt : ByteArray := method_7_code
def yL_melt : MethodName := ⟨RL, "melt", "(LDieRegister;I[J)I"⟩
abbrev cL_defects : ByteArray := method_8_code
def yL_defects : MethodName := ⟨RL, "defects", "(LDieRegister;I[J)I"⟩
abbrev cL_couldBeOf : ByteArray := method_9_code
def yL_couldBeOf : MethodName := ⟨RL, "couldBeOf", "(LDieRegister;I[J)I"⟩
abbrev cL_stages : ByteArray := method_10_code
def yL_stages : MethodName := ⟨RL, "stages", "(LDieRegister;I[J)I"⟩
abbrev cL_proof : ByteArray := method_11_code
def yL_proof : MethodName := ⟨RL, "proof", "(LDieRegister;I[J)I"⟩
abbrev cL_condemn : ByteArray := method_12_code
def yL_condemn : MethodName := ⟨RL, "condemn", "(LDieRegister;I[J)I"⟩
abbrev cL_isCondemned : ByteArray := method_13_code
def yL_isCondemned : MethodName := ⟨RL, "isCondemned", "(LDieRegister;I[J)I"⟩
abbrev cL_isTrue : ByteArray := method_14_code
def yL_isTrue : MethodName := ⟨RL, "isTrue", "(LDieRegister;I[J)I"⟩
abbrev cL_rarity : ByteArray := method_15_code
def yL_rarity : MethodName := ⟨RL, "rarity", "(LDieRegister;I[J)I"⟩
abbrev cL_rarityByCoins : ByteArray := method_16_code
def yL_rarityByCoins : MethodName := ⟨RL, "rarityByCoins", "(LDieRegister;I[J)I"⟩
abbrev cL_price : ByteArray := method_17_code
def yL_price : MethodName := ⟨RL, "price", "(LDieRegister;I[J)I"⟩
abbrev cL_give : ByteArray := method_18_code
def yL_give : MethodName := ⟨RL, "give", "(LDieRegister;II[J)I"⟩
abbrev cL_want : ByteArray := method_19_code
def yL_want : MethodName := ⟨RL, "want", "(LDieRegister;IIZ[J)I"⟩
abbrev cL_setFairness : ByteArray := method_20_code
def yL_setFairness : MethodName := ⟨RL, "setFairness", "(LDieRegister;II[J)I"⟩
abbrev cL_mark : ByteArray := method_21_code
def yL_mark : MethodName := ⟨RL, "mark", "(LDieRegister;IZ[J)I"⟩
abbrev cL_owner : ByteArray := method_22_code
def yL_owner : MethodName := ⟨RL, "owner", "(LDieRegister;I[J)I"⟩
abbrev cL_wants : ByteArray := method_23_code
def yL_wants : MethodName := ⟨RL, "wants", "(LDieRegister;I[J)I"⟩
abbrev cL_offers : ByteArray := method_24_code
def yL_offers : MethodName := ⟨RL, "offers", "(LDieRegister;I[J)I"⟩
abbrev cL_worth : ByteArray := method_25_code
def yL_worth : MethodName := ⟨RL, "worth", "(LDieRegister;I[J)I"⟩
abbrev cL_coinAt : ByteArray := method_26_code
def yL_coinAt : MethodName := ⟨RL, "coinAt", "(LDieRegister;II[J)I"⟩
abbrev cL_ringAt : ByteArray := method_27_code
def yL_ringAt : MethodName := ⟨RL, "ringAt", "(LDieRegister;I[J)I"⟩
abbrev cL_swap : ByteArray := method_28_code
def yL_swap : MethodName := ⟨RL, "swap", "(LDieRegister;[J)I"⟩
abbrev cL_swapAt : ByteArray := method_29_code
def yL_swapAt : MethodName := ⟨RL, "swapAt", "(LDieRegister;II[J)I"⟩
abbrev cL_law : ByteArray := code
def yL_law : MethodName := ⟨RL, "law", "([I)Z"⟩
abbrev vwCl : List vw_C := [(RJx4a65c, TJx4a65c, 3), (RX0, TX0, 6), (RX1, TX1, 5), (RX2, TX2, 7), (RX3, TX3, 2), (RX4, TX4, 5), (RX5, TX5, 18)]
