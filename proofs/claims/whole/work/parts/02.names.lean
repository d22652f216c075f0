def RX0 : String := "ClothWithMan$Cloth"
def TX0 : u_T := fun k => match k with
  | 0 => ("ClothWithMan$Cloth", "curve", "LClothWithMan$Curve;", true)
  | 1 => ("ClothWithMan$Cloth", "woven", "I", false)
  | 2 => ("ClothWithMan$Cloth", "mends", "Ljava/util/ArrayList;", true)
  | 3 => ("ClothWithMan$Cloth", "stuffs", "Ljava/util/ArrayList;", true)
  | _ => ("ClothWithMan$Cloth", "goes", "[I", true)
def tyX0 : Nat → FieldType := fun k => match k with
  | 0 => .object "ClothWithMan$Curve"
  | 1 => .int
  | 2 => .object "java/util/ArrayList"
  | 3 => .object "java/util/ArrayList"
  | _ => .array .int
theorem nmX0 : ∀ a, a < 5 → ∀ b, b < 5 → a ≠ b → (TX0 a).2.1 ≠ (TX0 b).2.1 := by decide +kernel
theorem tyX0_ok : ∀ k, k < 5 → parseFieldDescriptor (TX0 k).2.2.1 = some (tyX0 k) := by decide +kernel
def RX1 : String := "ClothWithMan$Curve"
def TX1 : u_T := fun k => match k with
  | 0 => ("ClothWithMan$Curve", "values", "[I", true)
  | 1 => ("ClothWithMan$Curve", "points", "I", false)
  | 2 => ("ClothWithMan$Curve", "readYears", "[I", true)
  | _ => ("ClothWithMan$Curve", "readValues", "[I", true)
def tyX1 : Nat → FieldType := fun k => match k with
  | 0 => .array .int
  | 1 => .int
  | 2 => .array .int
  | _ => .array .int
theorem nmX1 : ∀ a, a < 4 → ∀ b, b < 4 → a ≠ b → (TX1 a).2.1 ≠ (TX1 b).2.1 := by decide +kernel
theorem tyX1_ok : ∀ k, k < 4 → parseFieldDescriptor (TX1 k).2.2.1 = some (tyX1 k) := by decide +kernel
def RX2 : String := "ClothWithMan$How"
def TX2 : u_T := fun k => match k with
  | 0 => ("ClothWithMan$How", "needed", "I", true)
  | _ => ("ClothWithMan$How", "barred", "I", true)
def tyX2 : Nat → FieldType := fun k => match k with
  | 0 => .int
  | _ => .int
theorem nmX2 : ∀ a, a < 2 → ∀ b, b < 2 → a ≠ b → (TX2 a).2.1 ≠ (TX2 b).2.1 := by decide +kernel
theorem tyX2_ok : ∀ k, k < 2 → parseFieldDescriptor (TX2 k).2.2.1 = some (tyX2 k) := by decide +kernel
def RX3 : String := "ClothWithMan$Kept"
def TX3 : u_T := fun k => match k with
  | 0 => ("ClothWithMan$Kept", "woven", "I", false)
  | 1 => ("ClothWithMan$Kept", "random", "I", false)
  | 2 => ("ClothWithMan$Kept", "counted", "I", false)
  | 3 => ("ClothWithMan$Kept", "numbers", "[I", true)
  | _ => ("ClothWithMan$Kept", "faiths", "[I", true)
def tyX3 : Nat → FieldType := fun k => match k with
  | 0 => .int
  | 1 => .int
  | 2 => .int
  | 3 => .array .int
  | _ => .array .int
theorem nmX3 : ∀ a, a < 5 → ∀ b, b < 5 → a ≠ b → (TX3 a).2.1 ≠ (TX3 b).2.1 := by decide +kernel
theorem tyX3_ok : ∀ k, k < 5 → parseFieldDescriptor (TX3 k).2.2.1 = some (tyX3 k) := by decide +kernel
def RX4 : String := "ClothWithMan$Paper"
def TX4 : u_T := fun k => match k with
  | 0 => ("ClothWithMan$Paper", "year", "I", true)
  | 1 => ("ClothWithMan$Paper", "isSeen", "Z", true)
  | _ => ("ClothWithMan$Paper", "trust", "I", true)
def tyX4 : Nat → FieldType := fun k => match k with
  | 0 => .int
  | 1 => .boolean
  | _ => .int
theorem nmX4 : ∀ a, a < 3 → ∀ b, b < 3 → a ≠ b → (TX4 a).2.1 ≠ (TX4 b).2.1 := by decide +kernel
theorem tyX4_ok : ∀ k, k < 3 → parseFieldDescriptor (TX4 k).2.2.1 = some (tyX4 k) := by decide +kernel
def RX5 : String := "ClothWithMan$Patch"
def TX5 : u_T := fun k => match k with
  | 0 => ("ClothWithMan$Patch", "x", "I", true)
  | 1 => ("ClothWithMan$Patch", "y", "I", true)
  | 2 => ("ClothWithMan$Patch", "wide", "I", true)
  | 3 => ("ClothWithMan$Patch", "high", "I", true)
  | 4 => ("ClothWithMan$Patch", "year", "I", true)
  | _ => ("ClothWithMan$Patch", "share", "I", true)
def tyX5 : Nat → FieldType := fun k => match k with
  | 0 => .int
  | 1 => .int
  | 2 => .int
  | 3 => .int
  | 4 => .int
  | _ => .int
theorem nmX5 : ∀ a, a < 6 → ∀ b, b < 6 → a ≠ b → (TX5 a).2.1 ≠ (TX5 b).2.1 := by decide +kernel
theorem tyX5_ok : ∀ k, k < 6 → parseFieldDescriptor (TX5 k).2.2.1 = some (tyX5 k) := by decide +kernel
def RX6 : String := "ClothWithMan$Piece"
def TX6 : u_T := fun k => match k with
  | 0 => ("ClothWithMan$Piece", "x", "I", true)
  | 1 => ("ClothWithMan$Piece", "y", "I", true)
  | 2 => ("ClothWithMan$Piece", "way", "I", true)
  | 3 => ("ClothWithMan$Piece", "house", "I", true)
  | 4 => ("ClothWithMan$Piece", "isCounted", "Z", false)
  | _ => ("ClothWithMan$Piece", "number", "I", false)
def tyX6 : Nat → FieldType := fun k => match k with
  | 0 => .int
  | 1 => .int
  | 2 => .int
  | 3 => .int
  | 4 => .boolean
  | _ => .int
theorem nmX6 : ∀ a, a < 6 → ∀ b, b < 6 → a ≠ b → (TX6 a).2.1 ≠ (TX6 b).2.1 := by decide +kernel
theorem tyX6_ok : ∀ k, k < 6 → parseFieldDescriptor (TX6 k).2.2.1 = some (tyX6 k) := by decide +kernel
def RX7 : String := "ClothWithMan$Row"
def TX7 : u_T := fun k => match k with
  | 0 => ("ClothWithMan$Row", "told", "[J", true)
  | _ => ("ClothWithMan$Row", "size", "I", false)
def tyX7 : Nat → FieldType := fun k => match k with
  | 0 => .array .long
  | _ => .int
theorem nmX7 : ∀ a, a < 2 → ∀ b, b < 2 → a ≠ b → (TX7 a).2.1 ≠ (TX7 b).2.1 := by decide +kernel
theorem tyX7_ok : ∀ k, k < 2 → parseFieldDescriptor (TX7 k).2.2.1 = some (tyX7 k) := by decide +kernel
def RX8 : String := "ClothWithMan$Story"
def TX8 : u_T := fun k => match k with
  | 0 => ("ClothWithMan$Story", "terms", "I", false)
  | 1 => ("ClothWithMan$Story", "faith", "I", false)
  | 2 => ("ClothWithMan$Story", "wovenYear", "I", false)
  | 3 => ("ClothWithMan$Story", "stuffYear", "I", false)
  | 4 => ("ClothWithMan$Story", "stuffShare", "I", false)
  | 5 => ("ClothWithMan$Story", "mendYear", "I", false)
  | 6 => ("ClothWithMan$Story", "drift", "I", false)
  | 7 => ("ClothWithMan$Story", "offHouse", "I", false)
  | _ => ("ClothWithMan$Story", "offMore", "I", false)
def tyX8 : Nat → FieldType := fun k => match k with
  | 0 => .int
  | 1 => .int
  | 2 => .int
  | 3 => .int
  | 4 => .int
  | 5 => .int
  | 6 => .int
  | 7 => .int
  | _ => .int
theorem nmX8 : ∀ a, a < 9 → ∀ b, b < 9 → a ≠ b → (TX8 a).2.1 ≠ (TX8 b).2.1 := by decide +kernel
theorem tyX8_ok : ∀ k, k < 9 → parseFieldDescriptor (TX8 k).2.2.1 = some (tyX8 k) := by decide +kernel
def RX9 : String := "ClothWithMan$Text"
def TX9 : u_T := fun k => match k with
  | 0 => ("ClothWithMan$Text", "signs", "[C", true)
  | 1 => ("ClothWithMan$Text", "length", "I", false)
  | 2 => ("ClothWithMan$Text", "at", "I", false)
  | 3 => ("ClothWithMan$Text", "bound", "I", false)
  | _ => ("ClothWithMan$Text", "wrong", "I", false)
def tyX9 : Nat → FieldType := fun k => match k with
  | 0 => .array .char
  | 1 => .int
  | 2 => .int
  | 3 => .int
  | _ => .int
theorem nmX9 : ∀ a, a < 5 → ∀ b, b < 5 → a ≠ b → (TX9 a).2.1 ≠ (TX9 b).2.1 := by decide +kernel
theorem tyX9_ok : ∀ k, k < 5 → parseFieldDescriptor (TX9 k).2.2.1 = some (tyX9 k) := by decide +kernel
def RX10 : String := "ClothWithMan$Want"
def TX10 : u_T := fun k => match k with
  | 0 => ("ClothWithMan$Want", "story", "I", true)
  | 1 => ("ClothWithMan$Want", "papers", "I", true)
  | _ => ("ClothWithMan$Want", "pieces", "I", true)
def tyX10 : Nat → FieldType := fun k => match k with
  | 0 => .int
  | 1 => .int
  | _ => .int
theorem nmX10 : ∀ a, a < 3 → ∀ b, b < 3 → a ≠ b → (TX10 a).2.1 ≠ (TX10 b).2.1 := by decide +kernel
theorem tyX10_ok : ∀ k, k < 3 → parseFieldDescriptor (TX10 k).2.2.1 = some (tyX10 k) := by decide +kernel
def RX11 : String := "ClothWithMan"
def TX11 : u_T := fun k => match k with
  | 0 => ("ClothWithMan", "text", "LClothWithMan$Text;", true)
  | 1 => ("ClothWithMan", "cloth", "LClothWithMan$Cloth;", true)
  | 2 => ("ClothWithMan", "slips", "[I", true)
  | 3 => ("ClothWithMan", "spans", "[I", true)
  | 4 => ("ClothWithMan", "pieceList", "Ljava/util/ArrayList;", true)
  | 5 => ("ClothWithMan", "storyList", "Ljava/util/ArrayList;", true)
  | 6 => ("ClothWithMan", "paperList", "Ljava/util/ArrayList;", true)
  | 7 => ("ClothWithMan", "likesByWeave", "[I", true)
  | 8 => ("ClothWithMan", "hows", "[LClothWithMan$How;", true)
  | 9 => ("ClothWithMan", "wants", "[LClothWithMan$Want;", true)
  | 10 => ("ClothWithMan", "kept", "[LClothWithMan$Kept;", true)
  | 11 => ("ClothWithMan", "numbers", "LClothWithMan$Row;", true)
  | 12 => ("ClothWithMan", "random", "I", false)
  | 13 => ("ClothWithMan", "yearWeights", "[J", true)
  | 14 => ("ClothWithMan", "marked", "[Z", true)
  | 15 => ("ClothWithMan", "storyWeights", "[J", true)
  | 16 => ("ClothWithMan", "bares", "[I", true)
  | 17 => ("ClothWithMan", "partedBy", "[I", true)
  | 18 => ("ClothWithMan", "places", "[I", true)
  | _ => ("ClothWithMan", "counts", "[I", true)
def tyX11 : Nat → FieldType := fun k => match k with
  | 0 => .object "ClothWithMan$Text"
  | 1 => .object "ClothWithMan$Cloth"
  | 2 => .array .int
  | 3 => .array .int
  | 4 => .object "java/util/ArrayList"
  | 5 => .object "java/util/ArrayList"
  | 6 => .object "java/util/ArrayList"
  | 7 => .array .int
  | 8 => .array (.object "ClothWithMan$How")
  | 9 => .array (.object "ClothWithMan$Want")
  | 10 => .array (.object "ClothWithMan$Kept")
  | 11 => .object "ClothWithMan$Row"
  | 12 => .int
  | 13 => .array .long
  | 14 => .array .boolean
  | 15 => .array .long
  | 16 => .array .int
  | 17 => .array .int
  | 18 => .array .int
  | _ => .array .int
theorem nmX11 : ∀ a, a < 20 → ∀ b, b < 20 → a ≠ b → (TX11 a).2.1 ≠ (TX11 b).2.1 := by decide +kernel
theorem tyX11_ok : ∀ k, k < 20 → parseFieldDescriptor (TX11 k).2.2.1 = some (tyX11 k) := by decide +kernel
def RX12 : String := "ClothWithManModel"
def TX12 : u_T := fun k => match k with
  | 0 => ("ClothWithManModel", "values", "[I", true)
  | 1 => ("ClothWithManModel", "points", "I", false)
  | 2 => ("ClothWithManModel", "woven", "I", false)
  | 3 => ("ClothWithManModel", "mends", "I", false)
  | 4 => ("ClothWithManModel", "mend", "[I", true)
  | 5 => ("ClothWithManModel", "stuffs", "I", false)
  | 6 => ("ClothWithManModel", "stuff", "[I", true)
  | 7 => ("ClothWithManModel", "goes", "[I", true)
  | 8 => ("ClothWithManModel", "slip", "[I", true)
  | 9 => ("ClothWithManModel", "span", "[I", true)
  | 10 => ("ClothWithManModel", "pieces", "I", false)
  | 11 => ("ClothWithManModel", "pieceX", "[I", true)
  | 12 => ("ClothWithManModel", "pieceY", "[I", true)
  | 13 => ("ClothWithManModel", "pieceWay", "[I", true)
  | 14 => ("ClothWithManModel", "pieceHouse", "[I", true)
  | 15 => ("ClothWithManModel", "countedBits", "I", false)
  | 16 => ("ClothWithManModel", "number", "[I", true)
  | 17 => ("ClothWithManModel", "stories", "I", false)
  | 18 => ("ClothWithManModel", "storyWoven", "[I", true)
  | 19 => ("ClothWithManModel", "storyStuff", "[I", true)
  | 20 => ("ClothWithManModel", "storyShare", "[I", true)
  | 21 => ("ClothWithManModel", "storyMend", "[I", true)
  | 22 => ("ClothWithManModel", "storyDrift", "[I", true)
  | 23 => ("ClothWithManModel", "storyHouse", "[I", true)
  | 24 => ("ClothWithManModel", "storyOff", "[I", true)
  | 25 => ("ClothWithManModel", "storyTerms", "[I", true)
  | 26 => ("ClothWithManModel", "faiths", "[I", true)
  | 27 => ("ClothWithManModel", "papers", "I", false)
  | 28 => ("ClothWithManModel", "paperYear", "[I", true)
  | 29 => ("ClothWithManModel", "paperSeen", "[Z", true)
  | 30 => ("ClothWithManModel", "paperTrust", "[I", true)
  | 31 => ("ClothWithManModel", "likes", "I", false)
  | 32 => ("ClothWithManModel", "likeWeave", "[I", true)
  | 33 => ("ClothWithManModel", "hows", "I", false)
  | 34 => ("ClothWithManModel", "howNeeds", "[I", true)
  | 35 => ("ClothWithManModel", "howBars", "[I", true)
  | 36 => ("ClothWithManModel", "persons", "I", false)
  | 37 => ("ClothWithManModel", "wantedStory", "[I", true)
  | 38 => ("ClothWithManModel", "wantedPapers", "[I", true)
  | 39 => ("ClothWithManModel", "wantedPieces", "[I", true)
  | 40 => ("ClothWithManModel", "random", "I", false)
  | 41 => ("ClothWithManModel", "isKept", "[Z", true)
  | 42 => ("ClothWithManModel", "keptBits", "[I", true)
  | 43 => ("ClothWithManModel", "keptNumbers", "[I", true)
  | 44 => ("ClothWithManModel", "keptWoven", "[I", true)
  | 45 => ("ClothWithManModel", "keptFaiths", "[I", true)
  | 46 => ("ClothWithManModel", "keptStories", "[I", true)
  | 47 => ("ClothWithManModel", "keptRandom", "[I", true)
  | 48 => ("ClothWithManModel", "text", "[B", true)
  | 49 => ("ClothWithManModel", "typed", "I", false)
  | 50 => ("ClothWithManModel", "row", "[J", true)
  | 51 => ("ClothWithManModel", "rowMany", "I", false)
  | 52 => ("ClothWithManModel", "thrown", "I", false)
  | 53 => ("ClothWithManModel", "size", "I", false)
  | 54 => ("ClothWithManModel", "end", "I", false)
  | 55 => ("ClothWithManModel", "at", "I", false)
  | 56 => ("ClothWithManModel", "wrong", "I", false)
  | 57 => ("ClothWithManModel", "pointYear", "[I", true)
  | 58 => ("ClothWithManModel", "pointValue", "[I", true)
  | 59 => ("ClothWithManModel", "weights", "[J", true)
  | 60 => ("ClothWithManModel", "allWeights", "J", false)
  | 61 => ("ClothWithManModel", "taken", "[Z", true)
  | 62 => ("ClothWithManModel", "apartUp", "J", false)
  | 63 => ("ClothWithManModel", "apartLow", "J", false)
  | 64 => ("ClothWithManModel", "placeOf", "[I", true)
  | 65 => ("ClothWithManModel", "numberOf", "[I", true)
  | 66 => ("ClothWithManModel", "some", "I", false)
  | 67 => ("ClothWithManModel", "steep", "J", false)
  | 68 => ("ClothWithManModel", "steepMany", "I", false)
  | 69 => ("ClothWithManModel", "storyWeights", "[J", true)
  | _ => ("ClothWithManModel", "pairsOf", "[I", true)
def tyX12 : Nat → FieldType := fun k => match k with
  | 0 => .array .int
  | 1 => .int
  | 2 => .int
  | 3 => .int
  | 4 => .array .int
  | 5 => .int
  | 6 => .array .int
  | 7 => .array .int
  | 8 => .array .int
  | 9 => .array .int
  | 10 => .int
  | 11 => .array .int
  | 12 => .array .int
  | 13 => .array .int
  | 14 => .array .int
  | 15 => .int
  | 16 => .array .int
  | 17 => .int
  | 18 => .array .int
  | 19 => .array .int
  | 20 => .array .int
  | 21 => .array .int
  | 22 => .array .int
  | 23 => .array .int
  | 24 => .array .int
  | 25 => .array .int
  | 26 => .array .int
  | 27 => .int
  | 28 => .array .int
  | 29 => .array .boolean
  | 30 => .array .int
  | 31 => .int
  | 32 => .array .int
  | 33 => .int
  | 34 => .array .int
  | 35 => .array .int
  | 36 => .int
  | 37 => .array .int
  | 38 => .array .int
  | 39 => .array .int
  | 40 => .int
  | 41 => .array .boolean
  | 42 => .array .int
  | 43 => .array .int
  | 44 => .array .int
  | 45 => .array .int
  | 46 => .array .int
  | 47 => .array .int
  | 48 => .array .byte
  | 49 => .int
  | 50 => .array .long
  | 51 => .int
  | 52 => .int
  | 53 => .int
  | 54 => .int
  | 55 => .int
  | 56 => .int
  | 57 => .array .int
  | 58 => .array .int
  | 59 => .array .long
  | 60 => .long
  | 61 => .array .boolean
  | 62 => .long
  | 63 => .long
  | 64 => .array .int
  | 65 => .array .int
  | 66 => .int
  | 67 => .long
  | 68 => .int
  | 69 => .array .long
  | _ => .array .int
theorem nmX12 : ∀ a, a < 71 → ∀ b, b < 71 → a ≠ b → (TX12 a).2.1 ≠ (TX12 b).2.1 := by decide +kernel
theorem tyX12_ok : ∀ k, k < 71 → parseFieldDescriptor (TX12 k).2.2.1 = some (tyX12 k) := by decide +kernel
def RJx4a65c : String := "java/util/ArrayList"
def TJx4a65c : u_T := fun k => match k with
  | 0 => ("java/util/AbstractList", "modCount", "I", false)
  | 1 => ("java/util/ArrayList", "elementData", "[Ljava/lang/Object;", false)
  | _ => ("java/util/ArrayList", "size", "I", false)
def tyJx4a65c : Nat → FieldType := fun k => match k with
  | 0 => .int
  | 1 => .array (.object "java/lang/Object")
  | _ => .int
theorem nmJx4a65c : ∀ a, a < 3 → ∀ b, b < 3 → a ≠ b → (TJx4a65c a).2.1 ≠ (TJx4a65c b).2.1 := by decide +kernel
theorem tyJx4a65c_ok : ∀ k, k < 3 → parseFieldDescriptor (TJx4a65c k).2.2.1 = some (tyJx4a65c k) := by decide +kernel
abbrev vwCl : List vw_C := [(RJx4a65c, TJx4a65c, 3), (RX0, TX0, 5), (RX1, TX1, 4), (RX2, TX2, 2), (RX3, TX3, 5), (RX4, TX4, 3), (RX5, TX5, 6), (RX6, TX6, 6), (RX7, TX7, 2), (RX8, TX8, 9), (RX9, TX9, 5), (RX10, TX10, 3), (RX11, TX11, 20), (RX12, TX12, 71)]

