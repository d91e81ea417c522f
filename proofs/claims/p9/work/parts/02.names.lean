/-- the words that every method of ours stands on -/
def gT : List Cond := lw_tbl.filter goodWord
theorem gT_at (i : Nat) {w : Cond} (h : tables_1[i]? = some w) (hg : goodWord w = true) : w ∈ gT := List.mem_filter.mpr ⟨List.mem_append_right _ (List.mem_of_getElem? h), hg⟩
theorem gT_pr (i : Nat) {w : Cond} (h : (k2_sels lw_privs)[i]? = some w) (hg : goodWord w = true) : w ∈ gT := List.mem_filter.mpr ⟨List.mem_append_left _ (List.mem_of_getElem? h), hg⟩
theorem gT_sub {ws : List Cond} (is : List Nat) (h : is.map (fun i => tables_1[i]?) = ws.map some) (hg : ws.all goodWord = true) : ∀ w ∈ ws, w ∈ gT := by
  intro w hw
  have h1 : some w ∈ ws.map some := List.mem_map.mpr ⟨w, hw, rfl⟩
  rw [← h] at h1
  obtain ⟨i, -, hi⟩ := List.mem_map.mp h1
  exact gT_at i hi (List.all_eq_true.mp hg w hw)
/-- the places of the words that are no steady ones: nests, casts, texts, statics -/
def yI : List Nat := [33, 86, 114, 116, 121, 122, 124, 125, 127, 128, 130, 131, 133, 134, 136, 137, 139, 140, 159, 160, 162, 163, 165, 166, 168, 169, 171, 172, 174, 175, 177, 178, 180, 182, 184, 233, 235, 264, 346, 347, 348, 349, 350, 351, 352, 371, 373, 386, 434, 441, 495, 507, 550, 571, 572, 749, 856, 906, 913, 927, 934, 968]
def sT : List (String × Nat × String) := [("TripleStore", 74, "no triple"), ("TripleStore", 92, "the store is full"), ("TripleStore", 106, "a transaction is open"), ("TripleStore", 111, "no transaction is open"), ("TripleStore", 122, "keep is out of range"), ("TripleStore", 132, "n or a code is out of range"), ("TripleStore", 134, "the query would be too long"), ("TripleStore", 150, "the query has a fault"), ("TripleStore", 162, "too many solutions"), ("TripleStore", 178, "no such place"), ("TripleStore", 187, "the variable is given no term"), ("TripleStore", 204, "no such count")]
def yX : List Cond := [.isRef (.static "java/lang/Throwable" "UNASSIGNED_STACK" "[Ljava/lang/StackTraceElement;"), .isRef (.static "java/lang/Throwable" "SUPPRESSED_SENTINEL" "Ljava/util/List;"), .not (.castable "java/lang/IllegalStateException" "java/lang/IllegalArgumentException"), .not (.castable "java/lang/UnsupportedOperationException" "java/util/NoSuchElementException")]
def yT : List Cond := yI.filterMap (fun i => tables_1[i]?) ++ yX
theorem yT_at (i : Nat) {w : Cond} (hi : yI.contains i = true) (h : tables_1[i]? = some w) : w ∈ yT := List.mem_append_left _ (List.mem_filterMap.mpr ⟨i, List.contains_iff_mem.mp hi, h⟩)
def REl : String := "TripleStore$Element"
def TEl : u_T := fun k => match k with
  | 0 => ("TripleStore$Element", "kind", "I", false)
  | 1 => ("TripleStore$Element", "home", "I", false)
  | 2 => ("TripleStore$Element", "first", "J", false)
  | 3 => ("TripleStore$Element", "second", "J", false)
  | 4 => ("TripleStore$Element", "third", "J", false)
  | 5 => ("TripleStore$Element", "sign", "I", false)
  | _ => ("TripleStore$Element", "negated", "Z", false)
def tyEl : Nat → FieldType := fun k => match k with
  | 0 => .int
  | 1 => .int
  | 2 => .long
  | 3 => .long
  | 4 => .long
  | 5 => .int
  | _ => .boolean
theorem nmEl : ∀ a, a < 7 → ∀ b, b < 7 → a ≠ b → (TEl a).2.1 ≠ (TEl b).2.1 := by decide +kernel
theorem okEl : ∀ k, k < 7 → parseFieldDescriptor (TEl k).2.2.1 = some (tyEl k) := by decide +kernel
theorem inEl : ∀ w ∈ u_ws REl TEl 7, w ∈ gT := gT_sub [141, 143, 145, 147, 149, 151, 153] (by decide +kernel) (by decide +kernel)
def RPa : String := "TripleStore$Parser"
def TPa : u_T := fun k => match k with
  | 0 => ("TripleStore$Parser", "tokens", "LTripleStore$Tokens;", true)
  | 1 => ("TripleStore$Parser", "query", "LTripleStore$Query;", true)
  | _ => ("TripleStore$Parser", "side", "J", false)
def tyPa : Nat → FieldType := fun k => match k with
  | 0 => .object "TripleStore$Tokens"
  | 1 => .object "TripleStore$Query"
  | _ => .long
theorem nmPa : ∀ a, a < 3 → ∀ b, b < 3 → a ≠ b → (TPa a).2.1 ≠ (TPa b).2.1 := by decide +kernel
theorem okPa : ∀ k, k < 3 → parseFieldDescriptor (TPa k).2.2.1 = some (tyPa k) := by decide +kernel
theorem inPa : ∀ w ∈ u_ws RPa TPa 3, w ∈ gT := gT_sub [219, 221, 223] (by decide +kernel) (by decide +kernel)
def RQu : String := "TripleStore$Query"
def TQu : u_T := fun k => match k with
  | 0 => ("TripleStore$Query", "names", "[J", true)
  | 1 => ("TripleStore$Query", "variables", "I", false)
  | 2 => ("TripleStore$Query", "selected", "[I", true)
  | 3 => ("TripleStore$Query", "columns", "I", false)
  | 4 => ("TripleStore$Query", "distinct", "Z", false)
  | 5 => ("TripleStore$Query", "orderVariable", "I", false)
  | 6 => ("TripleStore$Query", "falling", "Z", false)
  | 7 => ("TripleStore$Query", "limit", "I", false)
  | 8 => ("TripleStore$Query", "elements", "[LTripleStore$Element;", true)
  | 9 => ("TripleStore$Query", "elementCount", "I", false)
  | 10 => ("TripleStore$Query", "elementOfGroup", "[I", true)
  | _ => ("TripleStore$Query", "groups", "I", false)
def tyQu : Nat → FieldType := fun k => match k with
  | 0 => .array .long
  | 1 => .int
  | 2 => .array .int
  | 3 => .int
  | 4 => .boolean
  | 5 => .int
  | 6 => .boolean
  | 7 => .int
  | 8 => .array (.object "TripleStore$Element")
  | 9 => .int
  | 10 => .array .int
  | _ => .int
theorem nmQu : ∀ a, a < 12 → ∀ b, b < 12 → a ≠ b → (TQu a).2.1 ≠ (TQu b).2.1 := by decide +kernel
theorem okQu : ∀ k, k < 12 → parseFieldDescriptor (TQu k).2.2.1 = some (tyQu k) := by decide +kernel
theorem inQu : ∀ w ∈ u_ws RQu TQu 12, w ∈ gT := gT_sub [185, 187, 189, 191, 193, 195, 197, 199, 201, 203, 205, 207] (by decide +kernel) (by decide +kernel)
def RRo : String := "TripleStore$Rows"
def TRo : u_T := fun k => match k with
  | 0 => ("TripleStore$Rows", "terms", "[J", true)
  | 1 => ("TripleStore$Rows", "order", "[I", true)
  | 2 => ("TripleStore$Rows", "columns", "I", false)
  | _ => ("TripleStore$Rows", "size", "I", false)
def tyRo : Nat → FieldType := fun k => match k with
  | 0 => .array .long
  | 1 => .array .int
  | 2 => .int
  | _ => .int
theorem nmRo : ∀ a, a < 4 → ∀ b, b < 4 → a ≠ b → (TRo a).2.1 ≠ (TRo b).2.1 := by decide +kernel
theorem okRo : ∀ k, k < 4 → parseFieldDescriptor (TRo k).2.2.1 = some (tyRo k) := by decide +kernel
theorem inRo : ∀ w ∈ u_ws RRo TRo 4, w ∈ gT := gT_sub [272, 274, 276, 278] (by decide +kernel) (by decide +kernel)
def RSo : String := "TripleStore$Solutions"
def TSo : u_T := fun k => match k with
  | 0 => ("TripleStore$Solutions", "terms", "[J", true)
  | _ => ("TripleStore$Solutions", "size", "I", false)
def tySo : Nat → FieldType := fun k => match k with
  | 0 => .array .long
  | _ => .int
theorem nmSo : ∀ a, a < 2 → ∀ b, b < 2 → a ≠ b → (TSo a).2.1 ≠ (TSo b).2.1 := by decide +kernel
theorem okSo : ∀ k, k < 2 → parseFieldDescriptor (TSo k).2.2.1 = some (tySo k) := by decide +kernel
theorem inSo : ∀ w ∈ u_ws RSo TSo 2, w ∈ gT := gT_sub [241, 243] (by decide +kernel) (by decide +kernel)
def RSv : String := "TripleStore$Solver"
def TSv : u_T := fun k => match k with
  | 0 => ("TripleStore$Solver", "store", "LTripleStore$Store;", true)
  | 1 => ("TripleStore$Solver", "query", "LTripleStore$Query;", true)
  | 2 => ("TripleStore$Solver", "found", "[LTripleStore$Solutions;", true)
  | 3 => ("TripleStore$Solver", "next", "[LTripleStore$Solutions;", true)
  | _ => ("TripleStore$Solver", "draft", "[J", true)
def tySv : Nat → FieldType := fun k => match k with
  | 0 => .object "TripleStore$Store"
  | 1 => .object "TripleStore$Query"
  | 2 => .array (.object "TripleStore$Solutions")
  | 3 => .array (.object "TripleStore$Solutions")
  | _ => .array .long
theorem nmSv : ∀ a, a < 5 → ∀ b, b < 5 → a ≠ b → (TSv a).2.1 ≠ (TSv b).2.1 := by decide +kernel
theorem okSv : ∀ k, k < 5 → parseFieldDescriptor (TSv k).2.2.1 = some (tySv k) := by decide +kernel
theorem inSv : ∀ w ∈ u_ws RSv TSv 5, w ∈ gT := gT_sub [251, 253, 255, 257, 259] (by decide +kernel) (by decide +kernel)
def RSt : String := "TripleStore$Store"
def TSt : u_T := fun k => match k with
  | 0 => ("TripleStore$Store", "triples", "LTripleStore$Triples;", true)
  | 1 => ("TripleStore$Store", "log", "LTripleStore$Triples;", true)
  | 2 => ("TripleStore$Store", "wasInsert", "[Z", true)
  | 3 => ("TripleStore$Store", "transactionOf", "[I", true)
  | 4 => ("TripleStore$Store", "open", "Z", false)
  | 5 => ("TripleStore$Store", "changes", "I", false)
  | 6 => ("TripleStore$Store", "committed", "I", false)
  | _ => ("TripleStore$Store", "unsynced", "I", false)
def tySt : Nat → FieldType := fun k => match k with
  | 0 => .object "TripleStore$Triples"
  | 1 => .object "TripleStore$Triples"
  | 2 => .array .boolean
  | 3 => .array .int
  | 4 => .boolean
  | 5 => .int
  | 6 => .int
  | _ => .int
theorem nmSt : ∀ a, a < 8 → ∀ b, b < 8 → a ≠ b → (TSt a).2.1 ≠ (TSt b).2.1 := by decide +kernel
theorem okSt : ∀ k, k < 8 → parseFieldDescriptor (TSt k).2.2.1 = some (tySt k) := by decide +kernel
theorem inSt : ∀ w ∈ u_ws RSt TSt 8, w ∈ gT := gT_sub [65, 67, 69, 71, 73, 75, 77, 79] (by decide +kernel) (by decide +kernel)
def RTo : String := "TripleStore$Tokens"
def TTo : u_T := fun k => match k with
  | 0 => ("TripleStore$Tokens", "kinds", "[I", true)
  | 1 => ("TripleStore$Tokens", "values", "[J", true)
  | 2 => ("TripleStore$Tokens", "places", "[I", true)
  | 3 => ("TripleStore$Tokens", "size", "I", false)
  | _ => ("TripleStore$Tokens", "at", "I", false)
def tyTo : Nat → FieldType := fun k => match k with
  | 0 => .array .int
  | 1 => .array .long
  | 2 => .array .int
  | 3 => .int
  | _ => .int
theorem nmTo : ∀ a, a < 5 → ∀ b, b < 5 → a ≠ b → (TTo a).2.1 ≠ (TTo b).2.1 := by decide +kernel
theorem okTo : ∀ k, k < 5 → parseFieldDescriptor (TTo k).2.2.1 = some (tyTo k) := by decide +kernel
theorem inTo : ∀ w ∈ u_ws RTo TTo 5, w ∈ gT := gT_sub [95, 97, 99, 101, 103] (by decide +kernel) (by decide +kernel)
def RTr : String := "TripleStore$Triples"
def TTr : u_T := fun k => match k with
  | 0 => ("TripleStore$Triples", "subjects", "[J", true)
  | 1 => ("TripleStore$Triples", "predicates", "[J", true)
  | 2 => ("TripleStore$Triples", "objects", "[J", true)
  | _ => ("TripleStore$Triples", "size", "I", false)
def tyTr : Nat → FieldType := fun k => match k with
  | 0 => .array .long
  | 1 => .array .long
  | 2 => .array .long
  | _ => .int
theorem nmTr : ∀ a, a < 4 → ∀ b, b < 4 → a ≠ b → (TTr a).2.1 ≠ (TTr b).2.1 := by decide +kernel
theorem okTr : ∀ k, k < 4 → parseFieldDescriptor (TTr k).2.2.1 = some (tyTr k) := by decide +kernel
theorem inTr : ∀ w ∈ u_ws RTr TTr 4, w ∈ gT := gT_sub [47, 49, 51, 53] (by decide +kernel) (by decide +kernel)
def RTS : String := "TripleStore"
def TTS : u_T := fun k => match k with
  | 0 => ("TripleStore", "store", "LTripleStore$Store;", true)
  | 1 => ("TripleStore", "text", "[C", true)
  | 2 => ("TripleStore", "tokens", "LTripleStore$Tokens;", true)
  | 3 => ("TripleStore", "query", "LTripleStore$Query;", true)
  | 4 => ("TripleStore", "parser", "LTripleStore$Parser;", true)
  | 5 => ("TripleStore", "solver", "LTripleStore$Solver;", true)
  | 6 => ("TripleStore", "rows", "LTripleStore$Rows;", true)
  | 7 => ("TripleStore", "length", "I", false)
  | _ => ("TripleStore", "faultPlace", "I", false)
def tyTS : Nat → FieldType := fun k => match k with
  | 0 => .object "TripleStore$Store"
  | 1 => .array .char
  | 2 => .object "TripleStore$Tokens"
  | 3 => .object "TripleStore$Query"
  | 4 => .object "TripleStore$Parser"
  | 5 => .object "TripleStore$Solver"
  | 6 => .object "TripleStore$Rows"
  | 7 => .int
  | _ => .int
theorem nmTS : ∀ a, a < 9 → ∀ b, b < 9 → a ≠ b → (TTS a).2.1 ≠ (TTS b).2.1 := by decide +kernel
theorem okTS : ∀ k, k < 9 → parseFieldDescriptor (TTS k).2.2.1 = some (tyTS k) := by decide +kernel
theorem inTS : ∀ w ∈ u_ws RTS TTS 9, w ∈ gT := gT_sub [290, 292, 294, 296, 298, 300, 302, 304, 306] (by decide +kernel) (by decide +kernel)
def RMo : String := "TripleStoreModel"
def TMo : u_T := fun k => match k with
  | 0 => ("TripleStoreModel", "triple", "[J", true)
  | 1 => ("TripleStoreModel", "triples", "I", false)
  | 2 => ("TripleStoreModel", "kept", "[J", true)
  | 3 => ("TripleStoreModel", "keptCount", "I", false)
  | 4 => ("TripleStoreModel", "change", "[J", true)
  | 5 => ("TripleStoreModel", "put", "[Z", true)
  | 6 => ("TripleStoreModel", "of", "[I", true)
  | 7 => ("TripleStoreModel", "changes", "I", false)
  | 8 => ("TripleStoreModel", "committed", "I", false)
  | 9 => ("TripleStoreModel", "unsynced", "I", false)
  | 10 => ("TripleStoreModel", "open", "Z", false)
  | 11 => ("TripleStoreModel", "openFrom", "I", false)
  | 12 => ("TripleStoreModel", "text", "[I", true)
  | 13 => ("TripleStoreModel", "length", "I", false)
  | 14 => ("TripleStoreModel", "fault", "I", false)
  | 15 => ("TripleStoreModel", "kind", "I", false)
  | 16 => ("TripleStoreModel", "token", "J", false)
  | 17 => ("TripleStoreModel", "start", "I", false)
  | 18 => ("TripleStoreModel", "end", "I", false)
  | 19 => ("TripleStoreModel", "behind", "I", false)
  | 20 => ("TripleStoreModel", "wrong", "I", false)
  | 21 => ("TripleStoreModel", "starts", "Z", false)
  | 22 => ("TripleStoreModel", "holds", "Z", false)
  | 23 => ("TripleStoreModel", "name", "[J", true)
  | 24 => ("TripleStoreModel", "names", "I", false)
  | 25 => ("TripleStoreModel", "elements", "I", false)
  | 26 => ("TripleStoreModel", "groups", "I", false)
  | 27 => ("TripleStoreModel", "depth", "I", false)
  | 28 => ("TripleStoreModel", "groupKind", "[I", true)
  | 29 => ("TripleStoreModel", "groupId", "[I", true)
  | 30 => ("TripleStoreModel", "op", "[I", true)
  | 31 => ("TripleStoreModel", "arg", "[I", true)
  | 32 => ("TripleStoreModel", "ops", "I", false)
  | 33 => ("TripleStoreModel", "side", "[I", true)
  | 34 => ("TripleStoreModel", "term", "[J", true)
  | 35 => ("TripleStoreModel", "patterns", "I", false)
  | 36 => ("TripleStoreModel", "testGroup", "[I", true)
  | 37 => ("TripleStoreModel", "testSign", "[I", true)
  | 38 => ("TripleStoreModel", "testNot", "[Z", true)
  | 39 => ("TripleStoreModel", "tests", "I", false)
  | 40 => ("TripleStoreModel", "wanted", "[I", true)
  | 41 => ("TripleStoreModel", "wantedCount", "I", false)
  | 42 => ("TripleStoreModel", "beside", "[I", true)
  | 43 => ("TripleStoreModel", "distinct", "Z", false)
  | 44 => ("TripleStoreModel", "orderBy", "I", false)
  | 45 => ("TripleStoreModel", "falls", "Z", false)
  | 46 => ("TripleStoreModel", "limit", "I", false)
  | 47 => ("TripleStoreModel", "value", "[J", true)
  | 48 => ("TripleStoreModel", "given", "[I", true)
  | 49 => ("TripleStoreModel", "size", "[I", true)
  | 50 => ("TripleStoreModel", "top", "I", false)
  | 51 => ("TripleStoreModel", "tooMany", "Z", false)
  | 52 => ("TripleStoreModel", "row", "[J", true)
  | 53 => ("TripleStoreModel", "rowGiven", "[I", true)
  | 54 => ("TripleStoreModel", "rowAt", "[I", true)
  | 55 => ("TripleStoreModel", "rows", "I", false)
  | 56 => ("TripleStoreModel", "column", "[I", true)
  | 57 => ("TripleStoreModel", "columns", "I", false)
  | _ => ("TripleStoreModel", "code", "I", false)
def tyMo : Nat → FieldType := fun k => match k with
  | 0 => .array .long
  | 1 => .int
  | 2 => .array .long
  | 3 => .int
  | 4 => .array .long
  | 5 => .array .boolean
  | 6 => .array .int
  | 7 => .int
  | 8 => .int
  | 9 => .int
  | 10 => .boolean
  | 11 => .int
  | 12 => .array .int
  | 13 => .int
  | 14 => .int
  | 15 => .int
  | 16 => .long
  | 17 => .int
  | 18 => .int
  | 19 => .int
  | 20 => .int
  | 21 => .boolean
  | 22 => .boolean
  | 23 => .array .long
  | 24 => .int
  | 25 => .int
  | 26 => .int
  | 27 => .int
  | 28 => .array .int
  | 29 => .array .int
  | 30 => .array .int
  | 31 => .array .int
  | 32 => .int
  | 33 => .array .int
  | 34 => .array .long
  | 35 => .int
  | 36 => .array .int
  | 37 => .array .int
  | 38 => .array .boolean
  | 39 => .int
  | 40 => .array .int
  | 41 => .int
  | 42 => .array .int
  | 43 => .boolean
  | 44 => .int
  | 45 => .boolean
  | 46 => .int
  | 47 => .array .long
  | 48 => .array .int
  | 49 => .array .int
  | 50 => .int
  | 51 => .boolean
  | 52 => .array .long
  | 53 => .array .int
  | 54 => .array .int
  | 55 => .int
  | 56 => .array .int
  | 57 => .int
  | _ => .int
theorem nmMo : ∀ a, a < 59 → ∀ b, b < 59 → a ≠ b → (TMo a).2.1 ≠ (TMo b).2.1 := by decide +kernel
theorem okMo : ∀ k, k < 59 → parseFieldDescriptor (TMo k).2.2.1 = some (tyMo k) := by decide +kernel
theorem inMo : ∀ w ∈ u_ws RMo TMo 59, w ∈ gT := gT_sub [1034, 1036, 1038, 1040, 1042, 1044, 1046, 1048, 1050, 1052, 1054, 1056, 1058, 1060, 1062, 1064, 1066, 1068, 1070, 1072, 1074, 1076, 1078, 1080, 1082, 1084, 1086, 1088, 1090, 1092, 1094, 1096, 1098, 1100, 1102, 1104, 1106, 1108, 1110, 1112, 1114, 1116, 1118, 1120, 1122, 1124, 1126, 1128, 1130, 1132, 1134, 1136, 1138, 1140, 1142, 1144, 1146, 1148, 1150] (by decide +kernel) (by decide +kernel)
abbrev vwCl : List vw_C := [(REl, TEl, 7), (RPa, TPa, 3), (RQu, TQu, 12), (RRo, TRo, 4), (RSo, TSo, 2), (RSv, TSv, 5), (RSt, TSt, 8), (RTo, TTo, 5), (RTr, TTr, 4), (RTS, TTS, 9), (RMo, TMo, 59)]
def mTY : List FieldType := [.int, .long, .char, .boolean, .object "TripleStore$Element", .object "TripleStore$Solutions"]
