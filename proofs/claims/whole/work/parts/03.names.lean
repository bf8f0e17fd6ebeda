def RX0 : String := "RankedSearch$Best"
def TX0 : u_T := fun k => match k with
  | 0 => ("RankedSearch$Best", "numbers", "[I", true)
  | 1 => ("RankedSearch$Best", "points", "[I", true)
  | 2 => ("RankedSearch$Best", "limit", "I", false)
  | _ => ("RankedSearch$Best", "count", "I", false)
def tyX0 : Nat → FieldType := fun k => match k with
  | 0 => .array .int
  | 1 => .array .int
  | 2 => .int
  | _ => .int
theorem nmX0 : ∀ a, a < 4 → ∀ b, b < 4 → a ≠ b → (TX0 a).2.1 ≠ (TX0 b).2.1 := by decide +kernel
theorem tyX0_ok : ∀ k, k < 4 → parseFieldDescriptor (TX0 k).2.2.1 = some (tyX0 k) := by decide +kernel
abbrev cX0_init : ByteArray := prog_2_method_1_code
def yX0_init : MethodName := ⟨RX0, "<init>", "()V"⟩
abbrev cX0_start : ByteArray := prog_2_method_2_code
def yX0_start : MethodName := ⟨RX0, "start", "(I)V"⟩
abbrev cX0_has : ByteArray := prog_2_method_3_code
def yX0_has : MethodName := ⟨RX0, "has", "(I)Z"⟩
abbrev cX0_numberAt : ByteArray := prog_2_method_4_code
def yX0_numberAt : MethodName := ⟨RX0, "numberAt", "(I)I"⟩
abbrev cX0_pointsAt : ByteArray := prog_2_method_5_code
def yX0_pointsAt : MethodName := ⟨RX0, "pointsAt", "(I)I"⟩
abbrev cX0_offer : ByteArray := prog_2_method_6_code
def yX0_offer : MethodName := ⟨RX0, "offer", "(II)V"⟩
abbrev cX0_goesBefore : ByteArray := prog_2_method_7_code
def yX0_goesBefore : MethodName := ⟨RX0, "goesBefore", "(III)Z"⟩
abbrev cX0_set : ByteArray := prog_2_method_8_code
def yX0_set : MethodName := ⟨RX0, "set", "(III)V"⟩
def RX1 : String := "RankedSearch$Document"
def TX1 : u_T := fun k => match k with
  | 0 => ("RankedSearch$Document", "number", "I", true)
  | 1 => ("RankedSearch$Document", "length", "I", false)
  | 2 => ("RankedSearch$Document", "first", "LRankedSearch$Posting;", false)
  | 3 => ("RankedSearch$Document", "met", "Z", false)
  | 4 => ("RankedSearch$Document", "barred", "Z", false)
  | 5 => ("RankedSearch$Document", "termsMet", "I", false)
  | 6 => ("RankedSearch$Document", "points", "I", false)
  | _ => ("RankedSearch$Document", "nextMet", "LRankedSearch$Document;", false)
def tyX1 : Nat → FieldType := fun k => match k with
  | 0 => .int
  | 1 => .int
  | 2 => .object "RankedSearch$Posting"
  | 3 => .boolean
  | 4 => .boolean
  | 5 => .int
  | 6 => .int
  | _ => .object "RankedSearch$Document"
theorem nmX1 : ∀ a, a < 8 → ∀ b, b < 8 → a ≠ b → (TX1 a).2.1 ≠ (TX1 b).2.1 := by decide +kernel
theorem tyX1_ok : ∀ k, k < 8 → parseFieldDescriptor (TX1 k).2.2.1 = some (tyX1 k) := by decide +kernel
abbrev cX1_init : ByteArray := prog_3_method_1_code
def yX1_init : MethodName := ⟨RX1, "<init>", "(I)V"⟩
def RX2 : String := "RankedSearch$Letters"
def TX2 : u_T := fun k => match k with
  | _ => ("", "", "", false)
def tyX2 : Nat → FieldType := fun k => match k with
  | _ => .int
theorem nmX2 : ∀ a, a < 0 → ∀ b, b < 0 → a ≠ b → (TX2 a).2.1 ≠ (TX2 b).2.1 := by decide +kernel
theorem tyX2_ok : ∀ k, k < 0 → parseFieldDescriptor (TX2 k).2.2.1 = some (tyX2 k) := by decide +kernel
abbrev cX2_letterOf : ByteArray := prog_4_method_2_code
def yX2_letterOf : MethodName := ⟨RX2, "letterOf", "(I)I"⟩
abbrev cX2_isLetter : ByteArray := prog_4_method_3_code
def yX2_isLetter : MethodName := ⟨RX2, "isLetter", "(I)Z"⟩
abbrev cX2_with : ByteArray := prog_4_method_4_code
def yX2_with : MethodName := ⟨RX2, "with", "(JII)J"⟩
abbrev cX2_lastWithBeginning : ByteArray := prog_4_method_5_code
def yX2_lastWithBeginning : MethodName := ⟨RX2, "lastWithBeginning", "(JI)J"⟩
abbrev cX2_firstLowest : ByteArray := prog_4_method_6_code
def yX2_firstLowest : MethodName := ⟨RX2, "firstLowest", "(J)J"⟩
def RX3 : String := "RankedSearch$Lexicon"
def TX3 : u_T := fun k => match k with
  | 0 => ("RankedSearch$Lexicon", "words", "Ljava/util/ArrayList;", true)
  | _ => ("RankedSearch$Lexicon", "spare", "LRankedSearch$Word;", false)
def tyX3 : Nat → FieldType := fun k => match k with
  | 0 => .object "java/util/ArrayList"
  | _ => .object "RankedSearch$Word"
theorem nmX3 : ∀ a, a < 2 → ∀ b, b < 2 → a ≠ b → (TX3 a).2.1 ≠ (TX3 b).2.1 := by decide +kernel
theorem tyX3_ok : ∀ k, k < 2 → parseFieldDescriptor (TX3 k).2.2.1 = some (tyX3 k) := by decide +kernel
abbrev cX3_init : ByteArray := prog_5_method_1_code
def yX3_init : MethodName := ⟨RX3, "<init>", "()V"⟩
abbrev cX3_size : ByteArray := prog_5_method_2_code
def yX3_size : MethodName := ⟨RX3, "size", "()I"⟩
abbrev cX3_wordAt : ByteArray := prog_5_method_3_code
def yX3_wordAt : MethodName := ⟨RX3, "wordAt", "(I)LRankedSearch$Word;"⟩
abbrev cX3_placeOf : ByteArray := prog_5_method_4_code
def yX3_placeOf : MethodName := ⟨RX3, "placeOf", "(J)I"⟩
abbrev cX3_wordOf : ByteArray := prog_5_method_5_code
def yX3_wordOf : MethodName := ⟨RX3, "wordOf", "(J)LRankedSearch$Word;"⟩
abbrev cX3_enter : ByteArray := prog_5_method_6_code
def yX3_enter : MethodName := ⟨RX3, "enter", "(J)LRankedSearch$Word;"⟩
abbrev cX3_strike : ByteArray := prog_5_method_7_code
def yX3_strike : MethodName := ⟨RX3, "strike", "(LRankedSearch$Word;)V"⟩
abbrev cX3_takeWord : ByteArray := prog_5_method_8_code
def yX3_takeWord : MethodName := ⟨RX3, "takeWord", "()LRankedSearch$Word;"⟩
def RX4 : String := "RankedSearch$Library"
def TX4 : u_T := fun k => match k with
  | 0 => ("RankedSearch$Library", "documents", "Ljava/util/ArrayList;", true)
  | 1 => ("RankedSearch$Library", "lexicon", "LRankedSearch$Lexicon;", true)
  | 2 => ("RankedSearch$Library", "wordsInAll", "I", false)
  | _ => ("RankedSearch$Library", "spare", "LRankedSearch$Posting;", false)
def tyX4 : Nat → FieldType := fun k => match k with
  | 0 => .object "java/util/ArrayList"
  | 1 => .object "RankedSearch$Lexicon"
  | 2 => .int
  | _ => .object "RankedSearch$Posting"
theorem nmX4 : ∀ a, a < 4 → ∀ b, b < 4 → a ≠ b → (TX4 a).2.1 ≠ (TX4 b).2.1 := by decide +kernel
theorem tyX4_ok : ∀ k, k < 4 → parseFieldDescriptor (TX4 k).2.2.1 = some (tyX4 k) := by decide +kernel
abbrev cX4_init : ByteArray := prog_6_method_1_code
def yX4_init : MethodName := ⟨RX4, "<init>", "()V"⟩
abbrev cX4_documentCount : ByteArray := prog_6_method_2_code
def yX4_documentCount : MethodName := ⟨RX4, "documentCount", "()I"⟩
abbrev cX4_documentOf : ByteArray := prog_6_method_3_code
def yX4_documentOf : MethodName := ⟨RX4, "documentOf", "(I)LRankedSearch$Document;"⟩
abbrev cX4_openDocument : ByteArray := prog_6_method_4_code
def yX4_openDocument : MethodName := ⟨RX4, "openDocument", "(I)LRankedSearch$Document;"⟩
abbrev cX4_removeDocument : ByteArray := prog_6_method_5_code
def yX4_removeDocument : MethodName := ⟨RX4, "removeDocument", "(I)Z"⟩
abbrev cX4_rewrite : ByteArray := prog_6_method_6_code
def yX4_rewrite : MethodName := ⟨RX4, "rewrite", "(LRankedSearch$Document;LRankedSearch$Tape;)V"⟩
abbrev cX4_rarity : ByteArray := prog_6_method_7_code
def yX4_rarity : MethodName := ⟨RX4, "rarity", "(LRankedSearch$Word;)I"⟩
abbrev cX4_documentAt : ByteArray := prog_6_method_8_code
def yX4_documentAt : MethodName := ⟨RX4, "documentAt", "(I)LRankedSearch$Document;"⟩
abbrev cX4_indexOf : ByteArray := prog_6_method_9_code
def yX4_indexOf : MethodName := ⟨RX4, "indexOf", "(I)I"⟩
abbrev cX4_count : ByteArray := prog_6_method_10_code
def yX4_count : MethodName := ⟨RX4, "count", "(LRankedSearch$Document;LRankedSearch$Word;)V"⟩
abbrev cX4_post : ByteArray := prog_6_method_11_code
def yX4_post : MethodName := ⟨RX4, "post", "(LRankedSearch$Document;LRankedSearch$Word;)LRankedSearch$Posting;"⟩
abbrev cX4_forgetWords : ByteArray := prog_6_method_12_code
def yX4_forgetWords : MethodName := ⟨RX4, "forgetWords", "(LRankedSearch$Document;)V"⟩
abbrev cX4_release : ByteArray := prog_6_method_13_code
def yX4_release : MethodName := ⟨RX4, "release", "(LRankedSearch$Posting;)V"⟩
abbrev cX4_takePosting : ByteArray := prog_6_method_14_code
def yX4_takePosting : MethodName := ⟨RX4, "takePosting", "()LRankedSearch$Posting;"⟩
def RX5 : String := "RankedSearch$Posting"
def TX5 : u_T := fun k => match k with
  | 0 => ("RankedSearch$Posting", "word", "LRankedSearch$Word;", false)
  | 1 => ("RankedSearch$Posting", "document", "LRankedSearch$Document;", false)
  | 2 => ("RankedSearch$Posting", "times", "I", false)
  | 3 => ("RankedSearch$Posting", "beforeInWord", "LRankedSearch$Posting;", false)
  | 4 => ("RankedSearch$Posting", "nextInWord", "LRankedSearch$Posting;", false)
  | _ => ("RankedSearch$Posting", "nextInDocument", "LRankedSearch$Posting;", false)
def tyX5 : Nat → FieldType := fun k => match k with
  | 0 => .object "RankedSearch$Word"
  | 1 => .object "RankedSearch$Document"
  | 2 => .int
  | 3 => .object "RankedSearch$Posting"
  | 4 => .object "RankedSearch$Posting"
  | _ => .object "RankedSearch$Posting"
theorem nmX5 : ∀ a, a < 6 → ∀ b, b < 6 → a ≠ b → (TX5 a).2.1 ≠ (TX5 b).2.1 := by decide +kernel
theorem tyX5_ok : ∀ k, k < 6 → parseFieldDescriptor (TX5 k).2.2.1 = some (tyX5 k) := by decide +kernel
abbrev cX5_init : ByteArray := prog_7_method_1_code
def yX5_init : MethodName := ⟨RX5, "<init>", "()V"⟩
abbrev cX5_impact : ByteArray := prog_7_method_2_code
def yX5_impact : MethodName := ⟨RX5, "impact", "()I"⟩
def RX6 : String := "RankedSearch$Query"
def TX6 : u_T := fun k => match k with
  | 0 => ("RankedSearch$Query", "terms", "[LRankedSearch$Term;", true)
  | 1 => ("RankedSearch$Query", "count", "I", false)
  | 2 => ("RankedSearch$Query", "term", "LRankedSearch$Term;", false)
  | 3 => ("RankedSearch$Query", "state", "I", false)
  | 4 => ("RankedSearch$Query", "faultKind", "I", false)
  | _ => ("RankedSearch$Query", "faultPlace", "I", false)
def tyX6 : Nat → FieldType := fun k => match k with
  | 0 => .array (.object "RankedSearch$Term")
  | 1 => .int
  | 2 => .object "RankedSearch$Term"
  | 3 => .int
  | 4 => .int
  | _ => .int
theorem nmX6 : ∀ a, a < 6 → ∀ b, b < 6 → a ≠ b → (TX6 a).2.1 ≠ (TX6 b).2.1 := by decide +kernel
theorem tyX6_ok : ∀ k, k < 6 → parseFieldDescriptor (TX6 k).2.2.1 = some (tyX6 k) := by decide +kernel
abbrev cX6_init : ByteArray := prog_8_method_1_code
def yX6_init : MethodName := ⟨RX6, "<init>", "()V"⟩
abbrev cX6_termAt : ByteArray := prog_8_method_2_code
def yX6_termAt : MethodName := ⟨RX6, "termAt", "(I)LRankedSearch$Term;"⟩
abbrev cX6_read : ByteArray := prog_8_method_3_code
def yX6_read : MethodName := ⟨RX6, "read", "(LRankedSearch$Tape;)V"⟩
abbrev cX6_note : ByteArray := prog_8_method_4_code
def yX6_note : MethodName := ⟨RX6, "note", "(II)V"⟩
abbrev cX6_take : ByteArray := prog_8_method_5_code
def yX6_take : MethodName := ⟨RX6, "take", "(I)I"⟩
abbrev cX6_takeBetweenTerms : ByteArray := prog_8_method_6_code
def yX6_takeBetweenTerms : MethodName := ⟨RX6, "takeBetweenTerms", "(I)I"⟩
abbrev cX6_nextTerm : ByteArray := prog_8_method_7_code
def yX6_nextTerm : MethodName := ⟨RX6, "nextTerm", "()LRankedSearch$Term;"⟩
abbrev cX6_takeLetter : ByteArray := prog_8_method_8_code
def yX6_takeLetter : MethodName := ⟨RX6, "takeLetter", "(I)I"⟩
abbrev cX6_takeBehindLetter : ByteArray := prog_8_method_9_code
def yX6_takeBehindLetter : MethodName := ⟨RX6, "takeBehindLetter", "(I)I"⟩
abbrev cX6_takeBehindStar : ByteArray := prog_8_method_10_code
def yX6_takeBehindStar : MethodName := ⟨RX6, "takeBehindStar", "(I)I"⟩
abbrev cX6_takeFigure : ByteArray := prog_8_method_11_code
def yX6_takeFigure : MethodName := ⟨RX6, "takeFigure", "(I)I"⟩
abbrev cX6_takeBlank : ByteArray := prog_8_method_12_code
def yX6_takeBlank : MethodName := ⟨RX6, "takeBlank", "(I)I"⟩
def RX7 : String := "RankedSearch$Search"
def TX7 : u_T := fun k => match k with
  | 0 => ("RankedSearch$Search", "firstMet", "LRankedSearch$Document;", false)
  | _ => ("RankedSearch$Search", "termsNeeded", "I", false)
def tyX7 : Nat → FieldType := fun k => match k with
  | 0 => .object "RankedSearch$Document"
  | _ => .int
theorem nmX7 : ∀ a, a < 2 → ∀ b, b < 2 → a ≠ b → (TX7 a).2.1 ≠ (TX7 b).2.1 := by decide +kernel
theorem tyX7_ok : ∀ k, k < 2 → parseFieldDescriptor (TX7 k).2.2.1 = some (tyX7 k) := by decide +kernel
abbrev cX7_init : ByteArray := prog_9_method_1_code
def yX7_init : MethodName := ⟨RX7, "<init>", "()V"⟩
abbrev cX7_suiting : ByteArray := prog_9_method_2_code
def yX7_suiting : MethodName := ⟨RX7, "suiting", "(LRankedSearch$Query;LRankedSearch$Library;LRankedSearch$Best;)V"⟩
abbrev cX7_resembling : ByteArray := prog_9_method_3_code
def yX7_resembling : MethodName := ⟨RX7, "resembling", "(LRankedSearch$Document;LRankedSearch$Library;LRankedSearch$Best;)V"⟩
abbrev cX7_follow : ByteArray := prog_9_method_4_code
def yX7_follow : MethodName := ⟨RX7, "follow", "(LRankedSearch$Term;ILRankedSearch$Library;)V"⟩
abbrev cX7_reward : ByteArray := prog_9_method_5_code
def yX7_reward : MethodName := ⟨RX7, "reward", "(LRankedSearch$Word;II)V"⟩
abbrev cX7_bar : ByteArray := prog_9_method_6_code
def yX7_bar : MethodName := ⟨RX7, "bar", "(LRankedSearch$Word;)V"⟩
abbrev cX7_meet : ByteArray := prog_9_method_7_code
def yX7_meet : MethodName := ⟨RX7, "meet", "(LRankedSearch$Document;)V"⟩
abbrev cX7_harvest : ByteArray := prog_9_method_8_code
def yX7_harvest : MethodName := ⟨RX7, "harvest", "(LRankedSearch$Best;)V"⟩
def RX8 : String := "RankedSearch$Tape"
def TX8 : u_T := fun k => match k with
  | 0 => ("RankedSearch$Tape", "bytes", "[B", true)
  | _ => ("RankedSearch$Tape", "length", "I", false)
def tyX8 : Nat → FieldType := fun k => match k with
  | 0 => .array .byte
  | _ => .int
theorem nmX8 : ∀ a, a < 2 → ∀ b, b < 2 → a ≠ b → (TX8 a).2.1 ≠ (TX8 b).2.1 := by decide +kernel
theorem tyX8_ok : ∀ k, k < 2 → parseFieldDescriptor (TX8 k).2.2.1 = some (tyX8 k) := by decide +kernel
abbrev cX8_init : ByteArray := prog_10_method_1_code
def yX8_init : MethodName := ⟨RX8, "<init>", "()V"⟩
abbrev cX8_length : ByteArray := prog_10_method_2_code
def yX8_length : MethodName := ⟨RX8, "length", "()I"⟩
abbrev cX8_empty : ByteArray := prog_10_method_3_code
def yX8_empty : MethodName := ⟨RX8, "empty", "()V"⟩
abbrev cX8_append : ByteArray := prog_10_method_4_code
def yX8_append : MethodName := ⟨RX8, "append", "(IJ)Z"⟩
abbrev cX8_add : ByteArray := prog_10_method_5_code
def yX8_add : MethodName := ⟨RX8, "add", "(B)V"⟩
abbrev cX8_byteAt : ByteArray := prog_10_method_6_code
def yX8_byteAt : MethodName := ⟨RX8, "byteAt", "(I)I"⟩
abbrev cX8_wordStart : ByteArray := prog_10_method_7_code
def yX8_wordStart : MethodName := ⟨RX8, "wordStart", "(I)I"⟩
abbrev cX8_wordEnd : ByteArray := prog_10_method_8_code
def yX8_wordEnd : MethodName := ⟨RX8, "wordEnd", "(I)I"⟩
abbrev cX8_lettersOf : ByteArray := prog_10_method_9_code
def yX8_lettersOf : MethodName := ⟨RX8, "lettersOf", "(II)J"⟩
def RX9 : String := "RankedSearch$Term"
def TX9 : u_T := fun k => match k with
  | 0 => ("RankedSearch$Term", "needed", "Z", false)
  | 1 => ("RankedSearch$Term", "unwanted", "Z", false)
  | 2 => ("RankedSearch$Term", "open", "Z", false)
  | 3 => ("RankedSearch$Term", "letters", "J", false)
  | 4 => ("RankedSearch$Term", "length", "I", false)
  | _ => ("RankedSearch$Term", "weight", "I", false)
def tyX9 : Nat → FieldType := fun k => match k with
  | 0 => .boolean
  | 1 => .boolean
  | 2 => .boolean
  | 3 => .long
  | 4 => .int
  | _ => .int
theorem nmX9 : ∀ a, a < 6 → ∀ b, b < 6 → a ≠ b → (TX9 a).2.1 ≠ (TX9 b).2.1 := by decide +kernel
theorem tyX9_ok : ∀ k, k < 6 → parseFieldDescriptor (TX9 k).2.2.1 = some (tyX9 k) := by decide +kernel
abbrev cX9_init : ByteArray := prog_11_method_1_code
def yX9_init : MethodName := ⟨RX9, "<init>", "()V"⟩
abbrev cX9_begin : ByteArray := prog_11_method_2_code
def yX9_begin : MethodName := ⟨RX9, "begin", "()V"⟩
abbrev cX9_append : ByteArray := prog_11_method_3_code
def yX9_append : MethodName := ⟨RX9, "append", "(I)Z"⟩
abbrev cX9_lastLetters : ByteArray := prog_11_method_4_code
def yX9_lastLetters : MethodName := ⟨RX9, "lastLetters", "()J"⟩
def RX10 : String := "RankedSearch$Word"
def TX10 : u_T := fun k => match k with
  | 0 => ("RankedSearch$Word", "letters", "J", false)
  | 1 => ("RankedSearch$Word", "holders", "I", false)
  | 2 => ("RankedSearch$Word", "total", "I", false)
  | 3 => ("RankedSearch$Word", "first", "LRankedSearch$Posting;", false)
  | _ => ("RankedSearch$Word", "nextSpare", "LRankedSearch$Word;", false)
def tyX10 : Nat → FieldType := fun k => match k with
  | 0 => .long
  | 1 => .int
  | 2 => .int
  | 3 => .object "RankedSearch$Posting"
  | _ => .object "RankedSearch$Word"
theorem nmX10 : ∀ a, a < 5 → ∀ b, b < 5 → a ≠ b → (TX10 a).2.1 ≠ (TX10 b).2.1 := by decide +kernel
theorem tyX10_ok : ∀ k, k < 5 → parseFieldDescriptor (TX10 k).2.2.1 = some (tyX10 k) := by decide +kernel
abbrev cX10_init : ByteArray := prog_12_method_1_code
def yX10_init : MethodName := ⟨RX10, "<init>", "()V"⟩
abbrev cX10_begin : ByteArray := prog_12_method_2_code
def yX10_begin : MethodName := ⟨RX10, "begin", "(J)V"⟩
abbrev cX10_link : ByteArray := prog_12_method_3_code
def yX10_link : MethodName := ⟨RX10, "link", "(LRankedSearch$Posting;)V"⟩
abbrev cX10_unlink : ByteArray := prog_12_method_4_code
def yX10_unlink : MethodName := ⟨RX10, "unlink", "(LRankedSearch$Posting;)V"⟩
def RX11 : String := "RankedSearch"
def TX11 : u_T := fun k => match k with
  | 0 => ("RankedSearch", "tape", "LRankedSearch$Tape;", true)
  | 1 => ("RankedSearch", "library", "LRankedSearch$Library;", true)
  | 2 => ("RankedSearch", "query", "LRankedSearch$Query;", true)
  | 3 => ("RankedSearch", "search", "LRankedSearch$Search;", true)
  | _ => ("RankedSearch", "best", "LRankedSearch$Best;", true)
def tyX11 : Nat → FieldType := fun k => match k with
  | 0 => .object "RankedSearch$Tape"
  | 1 => .object "RankedSearch$Library"
  | 2 => .object "RankedSearch$Query"
  | 3 => .object "RankedSearch$Search"
  | _ => .object "RankedSearch$Best"
theorem nmX11 : ∀ a, a < 5 → ∀ b, b < 5 → a ≠ b → (TX11 a).2.1 ≠ (TX11 b).2.1 := by decide +kernel
theorem tyX11_ok : ∀ k, k < 5 → parseFieldDescriptor (TX11 k).2.2.1 = some (tyX11 k) := by decide +kernel
abbrev cX11_init : ByteArray := prog_1_method_1_code
def yX11_init : MethodName := ⟨RX11, "<init>", "()V"⟩
abbrev cX11_feed : ByteArray := prog_1_method_2_code
def yX11_feed : MethodName := ⟨RX11, "feed", "(IJ)I"⟩
abbrev cX11_wipe : ByteArray := prog_1_method_3_code
def yX11_wipe : MethodName := ⟨RX11, "wipe", "()I"⟩
abbrev cX11_put : ByteArray := prog_1_method_4_code
def yX11_put : MethodName := ⟨RX11, "put", "(I)I"⟩
abbrev cX11_drop : ByteArray := prog_1_method_5_code
def yX11_drop : MethodName := ⟨RX11, "drop", "(I)Z"⟩
abbrev cX11_told : ByteArray := prog_1_method_6_code
def yX11_told : MethodName := ⟨RX11, "told", "(I)I"⟩
abbrev cX11_word : ByteArray := prog_1_method_7_code
def yX11_word : MethodName := ⟨RX11, "word", "(I)J"⟩
abbrev cX11_about : ByteArray := prog_1_method_8_code
def yX11_about : MethodName := ⟨RX11, "about", "(I)I"⟩
abbrev cX11_find : ByteArray := prog_1_method_9_code
def yX11_find : MethodName := ⟨RX11, "find", "(I)I"⟩
abbrev cX11_fault : ByteArray := prog_1_method_10_code
def yX11_fault : MethodName := ⟨RX11, "fault", "()I"⟩
abbrev cX11_place : ByteArray := prog_1_method_11_code
def yX11_place : MethodName := ⟨RX11, "place", "()I"⟩
abbrev cX11_similar : ByteArray := prog_1_method_12_code
def yX11_similar : MethodName := ⟨RX11, "similar", "(II)I"⟩
abbrev cX11_hit : ByteArray := prog_1_method_13_code
def yX11_hit : MethodName := ⟨RX11, "hit", "(I)I"⟩
abbrev cX11_score : ByteArray := prog_1_method_14_code
def yX11_score : MethodName := ⟨RX11, "score", "(I)I"⟩
abbrev cX11_requireNumber : ByteArray := prog_1_method_15_code
def yX11_requireNumber : MethodName := ⟨RX11, "requireNumber", "(I)V"⟩
abbrev cX11_requireFindable : ByteArray := prog_1_method_16_code
def yX11_requireFindable : MethodName := ⟨RX11, "requireFindable", "(I)V"⟩
def RX12 : String := "RankedSearchModel"
def TX12 : u_T := fun k => match k with
  | 0 => ("RankedSearchModel", "thrown", "I", false)
  | 1 => ("RankedSearchModel", "size", "I", false)
  | 2 => ("RankedSearchModel", "tape", "[I", true)
  | 3 => ("RankedSearchModel", "documents", "I", false)
  | 4 => ("RankedSearchModel", "number", "[I", true)
  | 5 => ("RankedSearchModel", "length", "[I", true)
  | 6 => ("RankedSearchModel", "words", "[J", true)
  | 7 => ("RankedSearchModel", "tapeWords", "I", false)
  | 8 => ("RankedSearchModel", "tapeWord", "[J", true)
  | 9 => ("RankedSearchModel", "terms", "I", false)
  | 10 => ("RankedSearchModel", "termWord", "[J", true)
  | 11 => ("RankedSearchModel", "termLetters", "[I", true)
  | 12 => ("RankedSearchModel", "open", "[Z", true)
  | 13 => ("RankedSearchModel", "sign", "[I", true)
  | 14 => ("RankedSearchModel", "weight", "[I", true)
  | 15 => ("RankedSearchModel", "at", "I", false)
  | 16 => ("RankedSearchModel", "fault", "I", false)
  | 17 => ("RankedSearchModel", "place", "I", false)
  | 18 => ("RankedSearchModel", "scores", "[I", true)
  | 19 => ("RankedSearchModel", "found", "I", false)
  | 20 => ("RankedSearchModel", "hitNumber", "[I", true)
  | 21 => ("RankedSearchModel", "hitScore", "[I", true)
  | 22 => ("RankedSearchModel", "isKnown", "Z", false)
  | 23 => ("RankedSearchModel", "firstAt", "[Z", true)
  | 24 => ("RankedSearchModel", "worthAt", "[I", true)
  | 25 => ("RankedSearchModel", "keys", "[J", true)
  | _ => ("RankedSearchModel", "having", "[I", true)
def tyX12 : Nat → FieldType := fun k => match k with
  | 0 => .int
  | 1 => .int
  | 2 => .array .int
  | 3 => .int
  | 4 => .array .int
  | 5 => .array .int
  | 6 => .array .long
  | 7 => .int
  | 8 => .array .long
  | 9 => .int
  | 10 => .array .long
  | 11 => .array .int
  | 12 => .array .boolean
  | 13 => .array .int
  | 14 => .array .int
  | 15 => .int
  | 16 => .int
  | 17 => .int
  | 18 => .array .int
  | 19 => .int
  | 20 => .array .int
  | 21 => .array .int
  | 22 => .boolean
  | 23 => .array .boolean
  | 24 => .array .int
  | 25 => .array .long
  | _ => .array .int
theorem nmX12 : ∀ a, a < 27 → ∀ b, b < 27 → a ≠ b → (TX12 a).2.1 ≠ (TX12 b).2.1 := by decide +kernel
theorem tyX12_ok : ∀ k, k < 27 → parseFieldDescriptor (TX12 k).2.2.1 = some (tyX12 k) := by decide +kernel
abbrev cX12_init : ByteArray := prog_14_method_1_code
def yX12_init : MethodName := ⟨RX12, "<init>", "()V"⟩
abbrev cX12_thrown : ByteArray := prog_14_method_2_code
def yX12_thrown : MethodName := ⟨RX12, "thrown", "()I"⟩
abbrev cX12_letterOf : ByteArray := prog_14_method_3_code
def yX12_letterOf : MethodName := ⟨RX12, "letterOf", "(I)I"⟩
abbrev cX12_with : ByteArray := prog_14_method_4_code
def yX12_with : MethodName := ⟨RX12, "with", "(JII)J"⟩
abbrev cX12_begins : ByteArray := prog_14_method_5_code
def yX12_begins : MethodName := ⟨RX12, "begins", "(JJI)Z"⟩
abbrev cX12_readWords : ByteArray := prog_14_method_6_code
def yX12_readWords : MethodName := ⟨RX12, "readWords", "()V"⟩
abbrev cX12_placeOf : ByteArray := prog_14_method_7_code
def yX12_placeOf : MethodName := ⟨RX12, "placeOf", "(I)I"⟩
abbrev cX12_times : ByteArray := prog_14_method_8_code
def yX12_times : MethodName := ⟨RX12, "times", "(IJ)I"⟩
abbrev cX12_impact : ByteArray := prog_14_method_9_code
def yX12_impact : MethodName := ⟨RX12, "impact", "(IJ)I"⟩
abbrev cX12_spot : ByteArray := prog_14_method_10_code
def yX12_spot : MethodName := ⟨RX12, "spot", "(J)I"⟩
abbrev cX12_know : ByteArray := prog_14_method_11_code
def yX12_know : MethodName := ⟨RX12, "know", "()V"⟩
abbrev cX12_having : ByteArray := prog_14_method_12_code
def yX12_having : MethodName := ⟨RX12, "having", "(J)I"⟩
abbrev cX12_rarity : ByteArray := prog_14_method_13_code
def yX12_rarity : MethodName := ⟨RX12, "rarity", "(J)I"⟩
abbrev cX12_digitsOf : ByteArray := prog_14_method_14_code
def yX12_digitsOf : MethodName := ⟨RX12, "digitsOf", "(I)I"⟩
abbrev cX12_isFirst : ByteArray := prog_14_method_15_code
def yX12_isFirst : MethodName := ⟨RX12, "isFirst", "(II)Z"⟩
abbrev cX12_remove : ByteArray := prog_14_method_16_code
def yX12_remove : MethodName := ⟨RX12, "remove", "(I)V"⟩
abbrev cX12_feed : ByteArray := prog_14_method_17_code
def yX12_feed : MethodName := ⟨RX12, "feed", "(IJ)I"⟩
abbrev cX12_wipe : ByteArray := prog_14_method_18_code
def yX12_wipe : MethodName := ⟨RX12, "wipe", "()I"⟩
abbrev cX12_isNumber : ByteArray := prog_14_method_19_code
def yX12_isNumber : MethodName := ⟨RX12, "isNumber", "(I)Z"⟩
abbrev cX12_put : ByteArray := prog_14_method_20_code
def yX12_put : MethodName := ⟨RX12, "put", "(I)I"⟩
abbrev cX12_drop : ByteArray := prog_14_method_21_code
def yX12_drop : MethodName := ⟨RX12, "drop", "(I)Z"⟩
abbrev cX12_nextWord : ByteArray := prog_14_method_22_code
def yX12_nextWord : MethodName := ⟨RX12, "nextWord", "(J)J"⟩
abbrev cX12_told : ByteArray := prog_14_method_23_code
def yX12_told : MethodName := ⟨RX12, "told", "(I)I"⟩
abbrev cX12_word : ByteArray := prog_14_method_24_code
def yX12_word : MethodName := ⟨RX12, "word", "(I)J"⟩
abbrev cX12_about : ByteArray := prog_14_method_25_code
def yX12_about : MethodName := ⟨RX12, "about", "(I)I"⟩
abbrev cX12_byteAt : ByteArray := prog_14_method_26_code
def yX12_byteAt : MethodName := ⟨RX12, "byteAt", "(I)I"⟩
abbrev cX12_isBlank : ByteArray := prog_14_method_27_code
def yX12_isBlank : MethodName := ⟨RX12, "isBlank", "()Z"⟩
abbrev cX12_skip : ByteArray := prog_14_method_28_code
def yX12_skip : MethodName := ⟨RX12, "skip", "()V"⟩
abbrev cX12_bad : ByteArray := prog_14_method_29_code
def yX12_bad : MethodName := ⟨RX12, "bad", "(ZI)Z"⟩
abbrev cX12_isTermBad : ByteArray := prog_14_method_30_code
def yX12_isTermBad : MethodName := ⟨RX12, "isTermBad", "()Z"⟩
abbrev cX12_isTermStart : ByteArray := prog_14_method_31_code
def yX12_isTermStart : MethodName := ⟨RX12, "isTermStart", "()Z"⟩
abbrev cX12_isQuery : ByteArray := prog_14_method_32_code
def yX12_isQuery : MethodName := ⟨RX12, "isQuery", "()Z"⟩
abbrev cX12_stands : ByteArray := prog_14_method_33_code
def yX12_stands : MethodName := ⟨RX12, "stands", "(IJ)Z"⟩
abbrev cX12_scoreOf : ByteArray := prog_14_method_34_code
def yX12_scoreOf : MethodName := ⟨RX12, "scoreOf", "(I)I"⟩
abbrev cX12_pick : ByteArray := prog_14_method_35_code
def yX12_pick : MethodName := ⟨RX12, "pick", "(II)I"⟩
abbrev cX12_find : ByteArray := prog_14_method_36_code
def yX12_find : MethodName := ⟨RX12, "find", "(I)I"⟩
abbrev cX12_fault : ByteArray := prog_14_method_37_code
def yX12_fault : MethodName := ⟨RX12, "fault", "()I"⟩
abbrev cX12_place : ByteArray := prog_14_method_38_code
def yX12_place : MethodName := ⟨RX12, "place", "()I"⟩
abbrev cX12_similar : ByteArray := prog_14_method_39_code
def yX12_similar : MethodName := ⟨RX12, "similar", "(II)I"⟩
abbrev cX12_hit : ByteArray := prog_14_method_40_code
def yX12_hit : MethodName := ⟨RX12, "hit", "(I)I"⟩
abbrev cX12_score : ByteArray := prog_14_method_41_code
def yX12_score : MethodName := ⟨RX12, "score", "(I)I"⟩
def RJx145de : String := "java/io/Serializable"
def TJx145de : u_T := fun k => match k with
  | _ => ("", "", "", false)
def tyJx145de : Nat → FieldType := fun k => match k with
  | _ => .int
theorem nmJx145de : ∀ a, a < 0 → ∀ b, b < 0 → a ≠ b → (TJx145de a).2.1 ≠ (TJx145de b).2.1 := by decide +kernel
theorem tyJx145de_ok : ∀ k, k < 0 → parseFieldDescriptor (TJx145de k).2.2.1 = some (tyJx145de k) := by decide +kernel
def RJ5 : String := "java/lang/AbstractStringBuilder"
def TJ5 : u_T := fun k => match k with
  | _ => ("", "", "", false)
def tyJ5 : Nat → FieldType := fun k => match k with
  | _ => .int
theorem nmJ5 : ∀ a, a < 0 → ∀ b, b < 0 → a ≠ b → (TJ5 a).2.1 ≠ (TJ5 b).2.1 := by decide +kernel
theorem tyJ5_ok : ∀ k, k < 0 → parseFieldDescriptor (TJ5 k).2.2.1 = some (tyJ5 k) := by decide +kernel
abbrev cJ5_init_d00df : ByteArray := prog_16_method_2_code
def yJ5_init_d00df : MethodName := ⟨RJ5, "<init>", "(I)V"⟩
abbrev cJ5_length_8abf5 : ByteArray := prog_16_method_6_code
def yJ5_length_8abf5 : MethodName := ⟨RJ5, "length", "()I"⟩
abbrev cJ5_ensureCapacityInternal_d00df : ByteArray := prog_16_method_9_code
def yJ5_ensureCapacityInternal_d00df : MethodName := ⟨RJ5, "ensureCapacityInternal", "(I)V"⟩
abbrev cJ5_newCapacity_0f7a4 : ByteArray := prog_16_method_10_code
def yJ5_newCapacity_0f7a4 : MethodName := ⟨RJ5, "newCapacity", "(I)I"⟩
abbrev cJ5_inflate_da8c8 : ByteArray := prog_16_method_11_code
def yJ5_inflate_da8c8 : MethodName := ⟨RJ5, "inflate", "()V"⟩
abbrev cJ5_append_cf1ce : ByteArray := prog_16_method_22_code
def yJ5_append_cf1ce : MethodName := ⟨RJ5, "append", "(Ljava/lang/String;)Ljava/lang/AbstractStringBuilder;"⟩
abbrev cJ5_appendNull_278bc : ByteArray := prog_16_method_26_code
def yJ5_appendNull_278bc : MethodName := ⟨RJ5, "appendNull", "()Ljava/lang/AbstractStringBuilder;"⟩
abbrev cJ5_append_c97b9 : ByteArray := prog_16_method_32_code
def yJ5_append_c97b9 : MethodName := ⟨RJ5, "append", "(I)Ljava/lang/AbstractStringBuilder;"⟩
abbrev cJ5_getValue_6d5f1 : ByteArray := prog_16_method_64_code
def yJ5_getValue_6d5f1 : MethodName := ⟨RJ5, "getValue", "()[B"⟩
abbrev cJ5_isLatin1_aae02 : ByteArray := prog_16_method_68_code
def yJ5_isLatin1_aae02 : MethodName := ⟨RJ5, "isLatin1", "()Z"⟩
abbrev cJ5_inflateIfNeededFor_a7421 : ByteArray := prog_16_method_71_code
def yJ5_inflateIfNeededFor_a7421 : MethodName := ⟨RJ5, "inflateIfNeededFor", "(Ljava/lang/String;)V"⟩
abbrev cJ5_putStringAt_47b60 : ByteArray := prog_16_method_73_code
def yJ5_putStringAt_47b60 : MethodName := ⟨RJ5, "putStringAt", "(ILjava/lang/String;)V"⟩
def RJx2cfe8 : String := "java/lang/Appendable"
def TJx2cfe8 : u_T := fun k => match k with
  | _ => ("", "", "", false)
def tyJx2cfe8 : Nat → FieldType := fun k => match k with
  | _ => .int
theorem nmJx2cfe8 : ∀ a, a < 0 → ∀ b, b < 0 → a ≠ b → (TJx2cfe8 a).2.1 ≠ (TJx2cfe8 b).2.1 := by decide +kernel
theorem tyJx2cfe8_ok : ∀ k, k < 0 → parseFieldDescriptor (TJx2cfe8 k).2.2.1 = some (tyJx2cfe8 k) := by decide +kernel
def RJx9f9b0 : String := "java/lang/CharSequence"
def TJx9f9b0 : u_T := fun k => match k with
  | _ => ("", "", "", false)
def tyJx9f9b0 : Nat → FieldType := fun k => match k with
  | _ => .int
theorem nmJx9f9b0 : ∀ a, a < 0 → ∀ b, b < 0 → a ≠ b → (TJx9f9b0 a).2.1 ≠ (TJx9f9b0 b).2.1 := by decide +kernel
theorem tyJx9f9b0_ok : ∀ k, k < 0 → parseFieldDescriptor (TJx9f9b0 k).2.2.1 = some (tyJx9f9b0 k) := by decide +kernel
def RJx8e188 : String := "java/lang/Cloneable"
def TJx8e188 : u_T := fun k => match k with
  | _ => ("", "", "", false)
def tyJx8e188 : Nat → FieldType := fun k => match k with
  | _ => .int
theorem nmJx8e188 : ∀ a, a < 0 → ∀ b, b < 0 → a ≠ b → (TJx8e188 a).2.1 ≠ (TJx8e188 b).2.1 := by decide +kernel
theorem tyJx8e188_ok : ∀ k, k < 0 → parseFieldDescriptor (TJx8e188 k).2.2.1 = some (tyJx8e188 k) := by decide +kernel
def RJxb160c : String := "java/lang/Comparable"
def TJxb160c : u_T := fun k => match k with
  | _ => ("", "", "", false)
def tyJxb160c : Nat → FieldType := fun k => match k with
  | _ => .int
theorem nmJxb160c : ∀ a, a < 0 → ∀ b, b < 0 → a ≠ b → (TJxb160c a).2.1 ≠ (TJxb160c b).2.1 := by decide +kernel
theorem tyJxb160c_ok : ∀ k, k < 0 → parseFieldDescriptor (TJxb160c k).2.2.1 = some (tyJxb160c k) := by decide +kernel
def RJ6 : String := "java/lang/Integer"
def TJ6 : u_T := fun k => match k with
  | _ => ("", "", "", false)
def tyJ6 : Nat → FieldType := fun k => match k with
  | _ => .int
theorem nmJ6 : ∀ a, a < 0 → ∀ b, b < 0 → a ≠ b → (TJ6 a).2.1 ≠ (TJ6 b).2.1 := by decide +kernel
theorem tyJ6_ok : ∀ k, k < 0 → parseFieldDescriptor (TJ6 k).2.2.1 = some (tyJ6 k) := by decide +kernel
abbrev cJ6_getChars_ba4f3 : ByteArray := prog_24_method_12_code
def yJ6_getChars_ba4f3 : MethodName := ⟨RJ6, "getChars", "(II[B)I"⟩
abbrev cJ6_stringSize_0f7a4 : ByteArray := prog_24_method_13_code
def yJ6_stringSize_0f7a4 : MethodName := ⟨RJ6, "stringSize", "(I)I"⟩
def RJxab1ab : String := "java/lang/Iterable"
def TJxab1ab : u_T := fun k => match k with
  | _ => ("", "", "", false)
def tyJxab1ab : Nat → FieldType := fun k => match k with
  | _ => .int
theorem nmJxab1ab : ∀ a, a < 0 → ∀ b, b < 0 → a ≠ b → (TJxab1ab a).2.1 ≠ (TJxab1ab b).2.1 := by decide +kernel
theorem tyJxab1ab_ok : ∀ k, k < 0 → parseFieldDescriptor (TJxab1ab k).2.2.1 = some (tyJxab1ab k) := by decide +kernel
def RJ9 : String := "java/lang/Math"
def TJ9 : u_T := fun k => match k with
  | _ => ("", "", "", false)
def tyJ9 : Nat → FieldType := fun k => match k with
  | _ => .int
theorem nmJ9 : ∀ a, a < 0 → ∀ b, b < 0 → a ≠ b → (TJ9 a).2.1 ≠ (TJ9 b).2.1 := by decide +kernel
theorem tyJ9_ok : ∀ k, k < 0 → parseFieldDescriptor (TJ9 k).2.2.1 = some (tyJ9 k) := by decide +kernel
abbrev cJ9_max_7cf53 : ByteArray := prog_26_method_65_code
def yJ9_max_7cf53 : MethodName := ⟨RJ9, "max", "(II)I"⟩
abbrev cJ9_min_7cf53 : ByteArray := prog_26_method_69_code
def yJ9_min_7cf53 : MethodName := ⟨RJ9, "min", "(II)I"⟩
def RJxd2413 : String := "java/lang/Number"
def TJxd2413 : u_T := fun k => match k with
  | _ => ("", "", "", false)
def tyJxd2413 : Nat → FieldType := fun k => match k with
  | _ => .int
theorem nmJxd2413 : ∀ a, a < 0 → ∀ b, b < 0 → a ≠ b → (TJxd2413 a).2.1 ≠ (TJxd2413 b).2.1 := by decide +kernel
theorem tyJxd2413_ok : ∀ k, k < 0 → parseFieldDescriptor (TJxd2413 k).2.2.1 = some (tyJxd2413 k) := by decide +kernel
def RJ0 : String := "java/lang/String"
def TJ0 : u_T := fun k => match k with
  | 0 => ("java/lang/String", "value", "[B", true)
  | 1 => ("java/lang/String", "coder", "B", true)
  | 2 => ("java/lang/String", "hash", "I", false)
  | _ => ("java/lang/String", "hashIsZero", "Z", false)
def tyJ0 : Nat → FieldType := fun k => match k with
  | 0 => .array .byte
  | 1 => .byte
  | 2 => .int
  | _ => .boolean
theorem nmJ0 : ∀ a, a < 4 → ∀ b, b < 4 → a ≠ b → (TJ0 a).2.1 ≠ (TJ0 b).2.1 := by decide +kernel
theorem tyJ0_ok : ∀ k, k < 4 → parseFieldDescriptor (TJ0 k).2.2.1 = some (tyJ0 k) := by decide +kernel
abbrev cJ0_init_81219 : ByteArray := prog_29_method_53_code
def yJ0_init_81219 : MethodName := ⟨RJ0, "<init>", "(Ljava/lang/StringBuilder;)V"⟩
abbrev cJ0_length_8abf5 : ByteArray := prog_29_method_54_code
def yJ0_length_8abf5 : MethodName := ⟨RJ0, "length", "()I"⟩
abbrev cJ0_getBytes_840e7 : ByteArray := prog_29_method_147_code
def yJ0_getBytes_840e7 : MethodName := ⟨RJ0, "getBytes", "([BIB)V"⟩
abbrev cJ0_init_db425 : ByteArray := prog_29_method_150_code
def yJ0_init_db425 : MethodName := ⟨RJ0, "<init>", "(Ljava/lang/AbstractStringBuilder;Ljava/lang/Void;)V"⟩
abbrev cJ0_coder_7d493 : ByteArray := prog_29_method_152_code
def yJ0_coder_7d493 : MethodName := ⟨RJ0, "coder", "()B"⟩
abbrev cJ0_checkBoundsOffCount_cabcc : ByteArray := prog_29_method_157_code
def yJ0_checkBoundsOffCount_cabcc : MethodName := ⟨RJ0, "checkBoundsOffCount", "(III)I"⟩
abbrev cJ0_checkBoundsBeginEnd_23922 : ByteArray := prog_29_method_158_code
def yJ0_checkBoundsBeginEnd_23922 : MethodName := ⟨RJ0, "checkBoundsBeginEnd", "(III)V"⟩
def RJ4 : String := "java/lang/StringBuilder"
def TJ4 : u_T := fun k => match k with
  | 0 => ("java/lang/AbstractStringBuilder", "value", "[B", false)
  | 1 => ("java/lang/AbstractStringBuilder", "coder", "B", false)
  | 2 => ("java/lang/AbstractStringBuilder", "maybeLatin1", "Z", false)
  | _ => ("java/lang/AbstractStringBuilder", "count", "I", false)
def tyJ4 : Nat → FieldType := fun k => match k with
  | 0 => .array .byte
  | 1 => .byte
  | 2 => .boolean
  | _ => .int
theorem nmJ4 : ∀ a, a < 4 → ∀ b, b < 4 → a ≠ b → (TJ4 a).2.1 ≠ (TJ4 b).2.1 := by decide +kernel
theorem tyJ4_ok : ∀ k, k < 4 → parseFieldDescriptor (TJ4 k).2.2.1 = some (tyJ4 k) := by decide +kernel
abbrev cJ4_init_da8c8 : ByteArray := prog_30_method_1_code
def yJ4_init_da8c8 : MethodName := ⟨RJ4, "<init>", "()V"⟩
abbrev cJ4_append_15ec4 : ByteArray := prog_30_method_7_code
def yJ4_append_15ec4 : MethodName := ⟨RJ4, "append", "(Ljava/lang/String;)Ljava/lang/StringBuilder;"⟩
abbrev cJ4_append_bf812 : ByteArray := prog_30_method_15_code
def yJ4_append_bf812 : MethodName := ⟨RJ4, "append", "(I)Ljava/lang/StringBuilder;"⟩
abbrev cJ4_toString_0e30d : ByteArray := prog_30_method_42_code
def yJ4_toString_0e30d : MethodName := ⟨RJ4, "toString", "()Ljava/lang/String;"⟩
abbrev cJ4_length_8abf5 : ByteArray := prog_30_method_93_code
def yJ4_length_8abf5 : MethodName := ⟨RJ4, "length", "()I"⟩
def RJ1 : String := "java/lang/StringLatin1"
def TJ1 : u_T := fun k => match k with
  | _ => ("", "", "", false)
def tyJ1 : Nat → FieldType := fun k => match k with
  | _ => .int
theorem nmJ1 : ∀ a, a < 0 → ∀ b, b < 0 → a ≠ b → (TJ1 a).2.1 ≠ (TJ1 b).2.1 := by decide +kernel
theorem tyJ1_ok : ∀ k, k < 0 → parseFieldDescriptor (TJ1 k).2.2.1 = some (tyJ1 k) := by decide +kernel
abbrev cJ1_inflate_0e8fd : ByteArray := prog_31_method_50_code
def yJ1_inflate_0e8fd : MethodName := ⟨RJ1, "inflate", "([BI[BII)V"⟩
def RJ2 : String := "java/lang/StringUTF16"
def TJ2 : u_T := fun k => match k with
  | _ => ("", "", "", false)
def tyJ2 : Nat → FieldType := fun k => match k with
  | _ => .int
theorem nmJ2 : ∀ a, a < 0 → ∀ b, b < 0 → a ≠ b → (TJ2 a).2.1 ≠ (TJ2 b).2.1 := by decide +kernel
theorem tyJ2_ok : ∀ k, k < 0 → parseFieldDescriptor (TJ2 k).2.2.1 = some (tyJ2 k) := by decide +kernel
abbrev cJ2_newBytesFor_77867 : ByteArray := prog_32_method_2_code
def yJ2_newBytesFor_77867 : MethodName := ⟨RJ2, "newBytesFor", "(I)[B"⟩
abbrev cJ2_newBytesLength_0f7a4 : ByteArray := prog_32_method_3_code
def yJ2_newBytesLength_0f7a4 : MethodName := ⟨RJ2, "newBytesLength", "(I)I"⟩
abbrev cJ2_putChar_b72d1 : ByteArray := prog_32_method_4_code
def yJ2_putChar_b72d1 : MethodName := ⟨RJ2, "putChar", "([BII)V"⟩
abbrev cJ2_getChar_3b067 : ByteArray := prog_32_method_5_code
def yJ2_getChar_3b067 : MethodName := ⟨RJ2, "getChar", "([BI)C"⟩
abbrev cJ2_length_9d52b : ByteArray := prog_32_method_6_code
def yJ2_length_9d52b : MethodName := ⟨RJ2, "length", "([B)I"⟩
abbrev cJ2_coderFromArrayLen_85cad : ByteArray := prog_32_method_15_code
def yJ2_coderFromArrayLen_85cad : MethodName := ⟨RJ2, "coderFromArrayLen", "([BI)B"⟩
abbrev cJ2_compress_39247 : ByteArray := prog_32_method_17_code
def yJ2_compress_39247 : MethodName := ⟨RJ2, "compress", "([BII)[B"⟩
abbrev cJ2_compress_5af95 : ByteArray := prog_32_method_22_code
def yJ2_compress_5af95 : MethodName := ⟨RJ2, "compress", "([BI[BII)I"⟩
abbrev cJ2_getChars_46870 : ByteArray := prog_32_method_77_code
def yJ2_getChars_46870 : MethodName := ⟨RJ2, "getChars", "(III[B)I"⟩
abbrev cJ2_putCharsAt_cd4e5 : ByteArray := prog_32_method_81_code
def yJ2_putCharsAt_cd4e5 : MethodName := ⟨RJ2, "putCharsAt", "([BICCCC)I"⟩
abbrev cJ2_inflate_0e8fd : ByteArray := prog_32_method_86_code
def yJ2_inflate_0e8fd : MethodName := ⟨RJ2, "inflate", "([BI[BII)V"⟩
abbrev cJ2_getChars_ba4f3 : ByteArray := prog_32_method_89_code
def yJ2_getChars_ba4f3 : MethodName := ⟨RJ2, "getChars", "(II[B)I"⟩
abbrev cJ2_checkBoundsBeginEnd_d044e : ByteArray := prog_32_method_93_code
def yJ2_checkBoundsBeginEnd_d044e : MethodName := ⟨RJ2, "checkBoundsBeginEnd", "(II[B)V"⟩
abbrev cJ2_checkBoundsOffCount_d044e : ByteArray := prog_32_method_94_code
def yJ2_checkBoundsOffCount_d044e : MethodName := ⟨RJ2, "checkBoundsOffCount", "(II[B)V"⟩
def RJ10 : String := "java/lang/System"
def TJ10 : u_T := fun k => match k with
  | _ => ("", "", "", false)
def tyJ10 : Nat → FieldType := fun k => match k with
  | _ => .int
theorem nmJ10 : ∀ a, a < 0 → ∀ b, b < 0 → a ≠ b → (TJ10 a).2.1 ≠ (TJ10 b).2.1 := by decide +kernel
theorem tyJ10_ok : ∀ k, k < 0 → parseFieldDescriptor (TJ10 k).2.2.1 = some (tyJ10 k) := by decide +kernel
def RJxfd54e : String := "java/lang/constant/Constable"
def TJxfd54e : u_T := fun k => match k with
  | _ => ("", "", "", false)
def tyJxfd54e : Nat → FieldType := fun k => match k with
  | _ => .int
theorem nmJxfd54e : ∀ a, a < 0 → ∀ b, b < 0 → a ≠ b → (TJxfd54e a).2.1 ≠ (TJxfd54e b).2.1 := by decide +kernel
theorem tyJxfd54e_ok : ∀ k, k < 0 → parseFieldDescriptor (TJxfd54e k).2.2.1 = some (tyJxfd54e k) := by decide +kernel
def RJx3cf43 : String := "java/lang/constant/ConstantDesc"
def TJx3cf43 : u_T := fun k => match k with
  | _ => ("", "", "", false)
def tyJx3cf43 : Nat → FieldType := fun k => match k with
  | _ => .int
theorem nmJx3cf43 : ∀ a, a < 0 → ∀ b, b < 0 → a ≠ b → (TJx3cf43 a).2.1 ≠ (TJx3cf43 b).2.1 := by decide +kernel
theorem tyJx3cf43_ok : ∀ k, k < 0 → parseFieldDescriptor (TJx3cf43 k).2.2.1 = some (tyJx3cf43 k) := by decide +kernel
def RJxa1e45 : String := "java/util/AbstractCollection"
def TJxa1e45 : u_T := fun k => match k with
  | _ => ("", "", "", false)
def tyJxa1e45 : Nat → FieldType := fun k => match k with
  | _ => .int
theorem nmJxa1e45 : ∀ a, a < 0 → ∀ b, b < 0 → a ≠ b → (TJxa1e45 a).2.1 ≠ (TJxa1e45 b).2.1 := by decide +kernel
theorem tyJxa1e45_ok : ∀ k, k < 0 → parseFieldDescriptor (TJxa1e45 k).2.2.1 = some (tyJxa1e45 k) := by decide +kernel
abbrev cJxa1e45_init_da8c8 : ByteArray := prog_37_method_1_code
def yJxa1e45_init_da8c8 : MethodName := ⟨RJxa1e45, "<init>", "()V"⟩
def RJxc12de : String := "java/util/AbstractList"
def TJxc12de : u_T := fun k => match k with
  | _ => ("", "", "", false)
def tyJxc12de : Nat → FieldType := fun k => match k with
  | _ => .int
theorem nmJxc12de : ∀ a, a < 0 → ∀ b, b < 0 → a ≠ b → (TJxc12de a).2.1 ≠ (TJxc12de b).2.1 := by decide +kernel
theorem tyJxc12de_ok : ∀ k, k < 0 → parseFieldDescriptor (TJxc12de k).2.2.1 = some (tyJxc12de k) := by decide +kernel
abbrev cJxc12de_init_da8c8 : ByteArray := prog_38_method_1_code
def yJxc12de_init_da8c8 : MethodName := ⟨RJxc12de, "<init>", "()V"⟩
def RJx4a65c : String := "java/util/ArrayList"
def TJx4a65c : u_T := fun k => match k with
  | 0 => ("java/util/AbstractList", "modCount", "I", false)
  | 1 => ("java/util/ArrayList", "elementData", "[Ljava/lang/Object;", false)
  | _ => ("java/util/ArrayList", "size", "I", false)
def tyJx4a65c : Nat → FieldType := fun k => match k with
  | 0 => .int
  | 1 => .array (.object "java/lang/Object")
  | _ => .int
theorem nmJx4a65c : ∀ a, a < 3 → ∀ b, b < 3 → a ≠ b → (TJx4a65c a).2.1 ≠ (TJx4a65c b).2.1 := by decide +kernel
theorem tyJx4a65c_ok : ∀ k, k < 3 → parseFieldDescriptor (TJx4a65c k).2.2.1 = some (tyJx4a65c k) := by decide +kernel
abbrev cJx4a65c_init_da8c8 : ByteArray := prog_39_method_2_code
def yJx4a65c_init_da8c8 : MethodName := ⟨RJx4a65c, "<init>", "()V"⟩
abbrev cJx4a65c_grow_92f84 : ByteArray := prog_39_method_6_code
def yJx4a65c_grow_92f84 : MethodName := ⟨RJx4a65c, "grow", "(I)[Ljava/lang/Object;"⟩
abbrev cJx4a65c_grow_d5877 : ByteArray := prog_39_method_7_code
def yJx4a65c_grow_d5877 : MethodName := ⟨RJx4a65c, "grow", "()[Ljava/lang/Object;"⟩
abbrev cJx4a65c_size_8abf5 : ByteArray := prog_39_method_8_code
def yJx4a65c_size_8abf5 : MethodName := ⟨RJx4a65c, "size", "()I"⟩
abbrev cJx4a65c_elementData_915e3 : ByteArray := prog_39_method_18_code
def yJx4a65c_elementData_915e3 : MethodName := ⟨RJx4a65c, "elementData", "(I)Ljava/lang/Object;"⟩
abbrev cJx4a65c_get_915e3 : ByteArray := prog_39_method_20_code
def yJx4a65c_get_915e3 : MethodName := ⟨RJx4a65c, "get", "(I)Ljava/lang/Object;"⟩
abbrev cJx4a65c_add_72be8 : ByteArray := prog_39_method_24_code
def yJx4a65c_add_72be8 : MethodName := ⟨RJx4a65c, "add", "(Ljava/lang/Object;[Ljava/lang/Object;I)V"⟩
abbrev cJx4a65c_add_9ea2d : ByteArray := prog_39_method_25_code
def yJx4a65c_add_9ea2d : MethodName := ⟨RJx4a65c, "add", "(Ljava/lang/Object;)Z"⟩
abbrev cJx4a65c_add_7a177 : ByteArray := prog_39_method_26_code
def yJx4a65c_add_7a177 : MethodName := ⟨RJx4a65c, "add", "(ILjava/lang/Object;)V"⟩
abbrev cJx4a65c_remove_915e3 : ByteArray := prog_39_method_29_code
def yJx4a65c_remove_915e3 : MethodName := ⟨RJx4a65c, "remove", "(I)Ljava/lang/Object;"⟩
abbrev cJx4a65c_fastRemove_b59b0 : ByteArray := prog_39_method_39_code
def yJx4a65c_fastRemove_b59b0 : MethodName := ⟨RJx4a65c, "fastRemove", "([Ljava/lang/Object;I)V"⟩
abbrev cJx4a65c_rangeCheckForAdd_d00df : ByteArray := prog_39_method_45_code
def yJx4a65c_rangeCheckForAdd_d00df : MethodName := ⟨RJx4a65c, "rangeCheckForAdd", "(I)V"⟩
abbrev cJx4a65c_outOfBoundsMsg_b52d3 : ByteArray := prog_39_method_46_code
def yJx4a65c_outOfBoundsMsg_b52d3 : MethodName := ⟨RJx4a65c, "outOfBoundsMsg", "(I)Ljava/lang/String;"⟩
def RJ7 : String := "java/util/Arrays"
def TJ7 : u_T := fun k => match k with
  | _ => ("", "", "", false)
def tyJ7 : Nat → FieldType := fun k => match k with
  | _ => .int
theorem nmJ7 : ∀ a, a < 0 → ∀ b, b < 0 → a ≠ b → (TJ7 a).2.1 ≠ (TJ7 b).2.1 := by decide +kernel
theorem tyJ7_ok : ∀ k, k < 0 → parseFieldDescriptor (TJ7 k).2.2.1 = some (tyJ7 k) := by decide +kernel
abbrev cJ7_copyOf_1904c : ByteArray := prog_40_method_119_code
def yJ7_copyOf_1904c : MethodName := ⟨RJ7, "copyOf", "([Ljava/lang/Object;I)[Ljava/lang/Object;"⟩
abbrev cJ7_copyOf_6403c : ByteArray := prog_40_method_120_code
def yJ7_copyOf_6403c : MethodName := ⟨RJ7, "copyOf", "([Ljava/lang/Object;ILjava/lang/Class;)[Ljava/lang/Object;"⟩
abbrev cJ7_copyOf_9075b : ByteArray := prog_40_method_121_code
def yJ7_copyOf_9075b : MethodName := ⟨RJ7, "copyOf", "([BI)[B"⟩
abbrev cJ7_checkLength_df160 : ByteArray := prog_40_method_131_code
def yJ7_checkLength_df160 : MethodName := ⟨RJ7, "checkLength", "(II)V"⟩
abbrev cJ7_copyOfRange_39247 : ByteArray := prog_40_method_132_code
def yJ7_copyOfRange_39247 : MethodName := ⟨RJ7, "copyOfRange", "([BII)[B"⟩
abbrev cJ7_copyOfRangeByte_39247 : ByteArray := prog_40_method_133_code
def yJ7_copyOfRangeByte_39247 : MethodName := ⟨RJ7, "copyOfRangeByte", "([BII)[B"⟩
def RJx5ef63 : String := "java/util/Collection"
def TJx5ef63 : u_T := fun k => match k with
  | _ => ("", "", "", false)
def tyJx5ef63 : Nat → FieldType := fun k => match k with
  | _ => .int
theorem nmJx5ef63 : ∀ a, a < 0 → ∀ b, b < 0 → a ≠ b → (TJx5ef63 a).2.1 ≠ (TJx5ef63 b).2.1 := by decide +kernel
theorem tyJx5ef63_ok : ∀ k, k < 0 → parseFieldDescriptor (TJx5ef63 k).2.2.1 = some (tyJx5ef63 k) := by decide +kernel
def RJxbd725 : String := "java/util/List"
def TJxbd725 : u_T := fun k => match k with
  | _ => ("", "", "", false)
def tyJxbd725 : Nat → FieldType := fun k => match k with
  | _ => .int
theorem nmJxbd725 : ∀ a, a < 0 → ∀ b, b < 0 → a ≠ b → (TJxbd725 a).2.1 ≠ (TJxbd725 b).2.1 := by decide +kernel
theorem tyJxbd725_ok : ∀ k, k < 0 → parseFieldDescriptor (TJxbd725 k).2.2.1 = some (tyJxbd725 k) := by decide +kernel
def RJ15 : String := "java/util/Objects"
def TJ15 : u_T := fun k => match k with
  | _ => ("", "", "", false)
def tyJ15 : Nat → FieldType := fun k => match k with
  | _ => .int
theorem nmJ15 : ∀ a, a < 0 → ∀ b, b < 0 → a ≠ b → (TJ15 a).2.1 ≠ (TJ15 b).2.1 := by decide +kernel
theorem tyJ15_ok : ∀ k, k < 0 → parseFieldDescriptor (TJ15 k).2.2.1 = some (tyJ15 k) := by decide +kernel
abbrev cJ15_checkIndex_7cf53 : ByteArray := prog_43_method_17_code
def yJ15_checkIndex_7cf53 : MethodName := ⟨RJ15, "checkIndex", "(II)I"⟩
def RJxf0a74 : String := "java/util/RandomAccess"
def TJxf0a74 : u_T := fun k => match k with
  | _ => ("", "", "", false)
def tyJxf0a74 : Nat → FieldType := fun k => match k with
  | _ => .int
theorem nmJxf0a74 : ∀ a, a < 0 → ∀ b, b < 0 → a ≠ b → (TJxf0a74 a).2.1 ≠ (TJxf0a74 b).2.1 := by decide +kernel
theorem tyJxf0a74_ok : ∀ k, k < 0 → parseFieldDescriptor (TJxf0a74 k).2.2.1 = some (tyJxf0a74 k) := by decide +kernel
def RJxa66e6 : String := "java/util/SequencedCollection"
def TJxa66e6 : u_T := fun k => match k with
  | _ => ("", "", "", false)
def tyJxa66e6 : Nat → FieldType := fun k => match k with
  | _ => .int
theorem nmJxa66e6 : ∀ a, a < 0 → ∀ b, b < 0 → a ≠ b → (TJxa66e6 a).2.1 ≠ (TJxa66e6 b).2.1 := by decide +kernel
theorem tyJxa66e6_ok : ∀ k, k < 0 → parseFieldDescriptor (TJxa66e6 k).2.2.1 = some (tyJxa66e6 k) := by decide +kernel
def RJ8 : String := "jdk/internal/util/ArraysSupport"
def TJ8 : u_T := fun k => match k with
  | _ => ("", "", "", false)
def tyJ8 : Nat → FieldType := fun k => match k with
  | _ => .int
theorem nmJ8 : ∀ a, a < 0 → ∀ b, b < 0 → a ≠ b → (TJ8 a).2.1 ≠ (TJ8 b).2.1 := by decide +kernel
theorem tyJ8_ok : ∀ k, k < 0 → parseFieldDescriptor (TJ8 k).2.2.1 = some (tyJ8 k) := by decide +kernel
abbrev cJ8_newLength_cabcc : ByteArray := prog_46_method_27_code
def yJ8_newLength_cabcc : MethodName := ⟨RJ8, "newLength", "(III)I"⟩
abbrev cJ8_hugeLength_7cf53 : ByteArray := prog_46_method_28_code
def yJ8_hugeLength_7cf53 : MethodName := ⟨RJ8, "hugeLength", "(II)I"⟩
def RJ3 : String := "jdk/internal/util/Preconditions"
def TJ3 : u_T := fun k => match k with
  | _ => ("", "", "", false)
def tyJ3 : Nat → FieldType := fun k => match k with
  | _ => .int
theorem nmJ3 : ∀ a, a < 0 → ∀ b, b < 0 → a ≠ b → (TJ3 a).2.1 ≠ (TJ3 b).2.1 := by decide +kernel
theorem tyJ3_ok : ∀ k, k < 0 → parseFieldDescriptor (TJ3 k).2.2.1 = some (tyJ3 k) := by decide +kernel
abbrev cJ3_checkIndex_8e157 : ByteArray := prog_47_method_11_code
def yJ3_checkIndex_8e157 : MethodName := ⟨RJ3, "checkIndex", "(IILjava/util/function/BiFunction;)I"⟩
abbrev cJ3_checkFromToIndex_8c36e : ByteArray := prog_47_method_12_code
def yJ3_checkFromToIndex_8c36e : MethodName := ⟨RJ3, "checkFromToIndex", "(IIILjava/util/function/BiFunction;)I"⟩
abbrev cJ3_checkFromIndexSize_8c36e : ByteArray := prog_47_method_13_code
def yJ3_checkFromIndexSize_8c36e : MethodName := ⟨RJ3, "checkFromIndexSize", "(IIILjava/util/function/BiFunction;)I"⟩
def RL : String := "RankedSearchLaw"
abbrev cL_feed : ByteArray := method_3_code
def yL_feed : MethodName := ⟨RL, "feed", "(LRankedSearch;IJ[J)I"⟩
abbrev cL_put : ByteArray := method_4_code
def yL_put : MethodName := ⟨RL, "put", "(LRankedSearch;I[J)I"⟩
abbrev cL_drop : ByteArray := method_5_code
def yL_drop : MethodName := ⟨RL, "drop", "(LRankedSearch;I[J)I"⟩
abbrev cL_told : ByteArray := method_6_code
def yL_told : MethodName := ⟨RL, "told", "(LRankedSearch;I[J)I"⟩
abbrev cL_about : ByteArray := method_7_code
def yL_about : MethodName := ⟨RL, "about", "(LRankedSearch;I[J)I"⟩
abbrev cL_find : ByteArray := method_8_code
def yL_find : MethodName := ⟨RL, "find", "(LRankedSearch;I[J)I"⟩
abbrev cL_similar : ByteArray := method_9_code
def yL_similar : MethodName := ⟨RL, "similar", "(LRankedSearch;II[J)I"⟩
abbrev cL_hit : ByteArray := method_10_code
def yL_hit : MethodName := ⟨RL, "hit", "(LRankedSearch;I[J)I"⟩
abbrev cL_score : ByteArray := method_11_code
def yL_score : MethodName := ⟨RL, "score", "(LRankedSearch;I[J)I"⟩
abbrev cL_law : ByteArray := code
def yL_law : MethodName := ⟨RL, "law", "([I)Z"⟩
