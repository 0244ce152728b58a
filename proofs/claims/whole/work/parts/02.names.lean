/-! ===== BEGIN words of one list among another's, by their places ===== -/
theorem goodIn_r {big : List Cond} (ws : List Cond) (ps : List Nat) (hp : ws = ps.filterMap (fun i => big[i]?)) (h : ws.all goodWord = true) : GoodIn big ws := by
  intro w hw
  have h1 := List.all_eq_true.mp h w hw
  rw [hp] at hw
  obtain ⟨i, -, hi⟩ := List.mem_filterMap.mp hw
  have hm : w ∈ big := by first | exact List.mem_of_getElem? hi | exact List.getElem?_mem hi
  exact ⟨hm, good_of_word h1⟩
theorem goodIn_app {big a b : List Cond} (ha : GoodIn big a) (hb : GoodIn big b) : GoodIn big (a ++ b) := fun w h => (List.mem_append.mp h).elim (ha w) (hb w)
theorem goodIn_ca {big a b : List Cond} {c : Cond} (ha : GoodIn big (c :: a)) (hb : GoodIn big b) : GoodIn big (c :: (a ++ b)) := fun w h => (List.mem_cons.mp h).elim (fun e => ha w (List.mem_cons.mpr (Or.inl e))) (fun h => (List.mem_append.mp h).elim (fun h => ha w (List.mem_cons.mpr (Or.inr h))) (hb w))
theorem goodIn_sub {big ws : List Cond} (hm : ∀ w ∈ ws, w ∈ big) (h : ws.all goodWord = true) : GoodIn big ws := fun w hw => ⟨hm w hw, good_of_word (List.all_eq_true.mp h w hw)⟩
/-! ===== END ===== -/

/-! ===== BEGIN printed: names, fields, word lists, decode rows ===== -/
def RX0 : String := "ArcCache$AddressList"
def TX0 : u_T := fun k => match k with
  | 0 => ("ArcCache$AddressList", "oldestFirst", "[I", true)
  | _ => ("ArcCache$AddressList", "count", "I", false)
def tyX0 : Nat → FieldType := fun k => match k with
  | 0 => .array .int
  | _ => .int
abbrev wsX00 : List Cond := u_ws RX0 TX0 2
theorem nmX0 : ∀ a, a < 2 → ∀ b, b < 2 → a ≠ b → (TX0 a).2.1 ≠ (TX0 b).2.1 := by decide +kernel
theorem tyX0_ok : ∀ k, k < 2 → parseFieldDescriptor (TX0 k).2.2.1 = some (tyX0 k) := by decide +kernel
abbrev cX0_init : ByteArray := prog_2_method_1_code
def yX0_init : MethodName := ⟨RX0, "<init>", "()V"⟩
abbrev cX0_size : ByteArray := prog_2_method_2_code
def yX0_size : MethodName := ⟨RX0, "size", "()I"⟩
abbrev cX0_empty : ByteArray := prog_2_method_3_code
def yX0_empty : MethodName := ⟨RX0, "empty", "()V"⟩
abbrev cX0_has : ByteArray := prog_2_method_4_code
def yX0_has : MethodName := ⟨RX0, "has", "(I)Z"⟩
abbrev cX0_fromNewest : ByteArray := prog_2_method_5_code
def yX0_fromNewest : MethodName := ⟨RX0, "fromNewest", "(I)I"⟩
abbrev cX0_addNewest : ByteArray := prog_2_method_6_code
def yX0_addNewest : MethodName := ⟨RX0, "addNewest", "(I)V"⟩
abbrev cX0_oldest : ByteArray := prog_2_method_7_code
def yX0_oldest : MethodName := ⟨RX0, "oldest", "()I"⟩
abbrev cX0_dropOldest : ByteArray := prog_2_method_8_code
def yX0_dropOldest : MethodName := ⟨RX0, "dropOldest", "()V"⟩
abbrev cX0_remove : ByteArray := prog_2_method_9_code
def yX0_remove : MethodName := ⟨RX0, "remove", "(I)V"⟩
abbrev cX0_placeOf : ByteArray := prog_2_method_10_code
def yX0_placeOf : MethodName := ⟨RX0, "placeOf", "(I)I"⟩
def RX1 : String := "ArcCache"
def TX1 : u_T := fun k => match k with
  | 0 => ("ArcCache", "pages", "I", true)
  | 1 => ("ArcCache", "cameOnce", "LArcCache$AddressList;", true)
  | 2 => ("ArcCache", "cameAgain", "LArcCache$AddressList;", true)
  | 3 => ("ArcCache", "wentOnce", "LArcCache$AddressList;", true)
  | 4 => ("ArcCache", "wentAgain", "LArcCache$AddressList;", true)
  | 5 => ("ArcCache", "pageWords", "[I", true)
  | 6 => ("ArcCache", "dirtyPages", "[Z", true)
  | 7 => ("ArcCache", "storeWords", "[I", true)
  | 8 => ("ArcCache", "targetCount", "I", false)
  | 9 => ("ArcCache", "hitCount", "I", false)
  | 10 => ("ArcCache", "missCount", "I", false)
  | _ => ("ArcCache", "goneCount", "I", false)
def tyX1 : Nat → FieldType := fun k => match k with
  | 0 => .int
  | 1 => .object "ArcCache$AddressList"
  | 2 => .object "ArcCache$AddressList"
  | 3 => .object "ArcCache$AddressList"
  | 4 => .object "ArcCache$AddressList"
  | 5 => .array .int
  | 6 => .array .boolean
  | 7 => .array .int
  | 8 => .int
  | 9 => .int
  | 10 => .int
  | _ => .int
abbrev wsX10 : List Cond := u_ws RX1 TX1 12
theorem nmX1 : ∀ a, a < 12 → ∀ b, b < 12 → a ≠ b → (TX1 a).2.1 ≠ (TX1 b).2.1 := by decide +kernel
theorem tyX1_ok : ∀ k, k < 12 → parseFieldDescriptor (TX1 k).2.2.1 = some (tyX1 k) := by decide +kernel
abbrev cX1_init : ByteArray := prog_1_method_1_code
def yX1_init : MethodName := ⟨RX1, "<init>", "(I)V"⟩
abbrev cX1_init_ : ByteArray := prog_1_method_2_code
def yX1_init_ : MethodName := ⟨RX1, "init", "()V"⟩
abbrev cX1_read : ByteArray := prog_1_method_3_code
def yX1_read : MethodName := ⟨RX1, "read", "(I)I"⟩
abbrev cX1_write : ByteArray := prog_1_method_4_code
def yX1_write : MethodName := ⟨RX1, "write", "(II)Z"⟩
abbrev cX1_flush : ByteArray := prog_1_method_5_code
def yX1_flush : MethodName := ⟨RX1, "flush", "()I"⟩
abbrev cX1_whichList : ByteArray := prog_1_method_6_code
def yX1_whichList : MethodName := ⟨RX1, "whichList", "(I)I"⟩
abbrev cX1_at : ByteArray := prog_1_method_7_code
def yX1_at : MethodName := ⟨RX1, "at", "(II)I"⟩
abbrev cX1_length : ByteArray := prog_1_method_8_code
def yX1_length : MethodName := ⟨RX1, "length", "(I)I"⟩
abbrev cX1_target : ByteArray := prog_1_method_9_code
def yX1_target : MethodName := ⟨RX1, "target", "()I"⟩
abbrev cX1_hits : ByteArray := prog_1_method_10_code
def yX1_hits : MethodName := ⟨RX1, "hits", "()I"⟩
abbrev cX1_misses : ByteArray := prog_1_method_11_code
def yX1_misses : MethodName := ⟨RX1, "misses", "()I"⟩
abbrev cX1_store : ByteArray := prog_1_method_12_code
def yX1_store : MethodName := ⟨RX1, "store", "(I)I"⟩
abbrev cX1_isDirty : ByteArray := prog_1_method_13_code
def yX1_isDirty : MethodName := ⟨RX1, "isDirty", "(I)Z"⟩
abbrev cX1_gone : ByteArray := prog_1_method_14_code
def yX1_gone : MethodName := ⟨RX1, "gone", "()I"⟩
abbrev cX1_isAddress : ByteArray := prog_1_method_15_code
def yX1_isAddress : MethodName := ⟨RX1, "isAddress", "(I)Z"⟩
abbrev cX1_isList : ByteArray := prog_1_method_16_code
def yX1_isList : MethodName := ⟨RX1, "isList", "(I)Z"⟩
abbrev cX1_listNumbered : ByteArray := prog_1_method_17_code
def yX1_listNumbered : MethodName := ⟨RX1, "listNumbered", "(I)LArcCache$AddressList;"⟩
abbrev cX1_request : ByteArray := prog_1_method_18_code
def yX1_request : MethodName := ⟨RX1, "request", "(I)V"⟩
abbrev cX1_moveToCameAgain : ByteArray := prog_1_method_19_code
def yX1_moveToCameAgain : MethodName := ⟨RX1, "moveToCameAgain", "(II)V"⟩
abbrev cX1_bringPage : ByteArray := prog_1_method_20_code
def yX1_bringPage : MethodName := ⟨RX1, "bringPage", "(I)V"⟩
abbrev cX1_moveTarget : ByteArray := prog_1_method_21_code
def yX1_moveTarget : MethodName := ⟨RX1, "moveTarget", "(I)V"⟩
abbrev cX1_stepOf : ByteArray := prog_1_method_22_code
def yX1_stepOf : MethodName := ⟨RX1, "stepOf", "(II)I"⟩
abbrev cX1_makeRoom : ByteArray := prog_1_method_23_code
def yX1_makeRoom : MethodName := ⟨RX1, "makeRoom", "(I)V"⟩
abbrev cX1_makeRoomForUnknown : ByteArray := prog_1_method_24_code
def yX1_makeRoomForUnknown : MethodName := ⟨RX1, "makeRoomForUnknown", "(I)V"⟩
abbrev cX1_oldestGoes : ByteArray := prog_1_method_25_code
def yX1_oldestGoes : MethodName := ⟨RX1, "oldestGoes", "(LArcCache$AddressList;LArcCache$AddressList;)V"⟩
abbrev cX1_pageGoes : ByteArray := prog_1_method_26_code
def yX1_pageGoes : MethodName := ⟨RX1, "pageGoes", "(I)V"⟩
abbrev cX1_writeBack : ByteArray := prog_1_method_27_code
def yX1_writeBack : MethodName := ⟨RX1, "writeBack", "(I)V"⟩
def RX2 : String := "ArcCacheModel"
def TX2 : u_T := fun k => match k with
  | 0 => ("ArcCacheModel", "pages", "I", true)
  | 1 => ("ArcCacheModel", "lists", "[I", true)
  | 2 => ("ArcCacheModel", "many", "[I", true)
  | 3 => ("ArcCacheModel", "store", "[I", true)
  | 4 => ("ArcCacheModel", "words", "[I", true)
  | 5 => ("ArcCacheModel", "dirty", "[Z", true)
  | 6 => ("ArcCacheModel", "target", "I", false)
  | 7 => ("ArcCacheModel", "hits", "I", false)
  | 8 => ("ArcCacheModel", "misses", "I", false)
  | _ => ("ArcCacheModel", "gone", "I", false)
def tyX2 : Nat → FieldType := fun k => match k with
  | 0 => .int
  | 1 => .array .int
  | 2 => .array .int
  | 3 => .array .int
  | 4 => .array .int
  | 5 => .array .boolean
  | 6 => .int
  | 7 => .int
  | 8 => .int
  | _ => .int
abbrev wsX20 : List Cond := u_ws RX2 TX2 10
theorem nmX2 : ∀ a, a < 10 → ∀ b, b < 10 → a ≠ b → (TX2 a).2.1 ≠ (TX2 b).2.1 := by decide +kernel
theorem tyX2_ok : ∀ k, k < 10 → parseFieldDescriptor (TX2 k).2.2.1 = some (tyX2 k) := by decide +kernel
abbrev cX2_init : ByteArray := prog_4_method_1_code
def yX2_init : MethodName := ⟨RX2, "<init>", "(I)V"⟩
abbrev cX2_init_ : ByteArray := prog_4_method_2_code
def yX2_init_ : MethodName := ⟨RX2, "init", "()V"⟩
abbrev cX2_isAddress : ByteArray := prog_4_method_3_code
def yX2_isAddress : MethodName := ⟨RX2, "isAddress", "(I)Z"⟩
abbrev cX2_whichList : ByteArray := prog_4_method_4_code
def yX2_whichList : MethodName := ⟨RX2, "whichList", "(I)I"⟩
abbrev cX2_leave : ByteArray := prog_4_method_5_code
def yX2_leave : MethodName := ⟨RX2, "leave", "(I)V"⟩
abbrev cX2_come : ByteArray := prog_4_method_6_code
def yX2_come : MethodName := ⟨RX2, "come", "(II)V"⟩
abbrev cX2_old : ByteArray := prog_4_method_7_code
def yX2_old : MethodName := ⟨RX2, "old", "(I)I"⟩
abbrev cX2_clean : ByteArray := prog_4_method_8_code
def yX2_clean : MethodName := ⟨RX2, "clean", "(I)V"⟩
abbrev cX2_go : ByteArray := prog_4_method_9_code
def yX2_go : MethodName := ⟨RX2, "go", "(I)V"⟩
abbrev cX2_makeRoom : ByteArray := prog_4_method_10_code
def yX2_makeRoom : MethodName := ⟨RX2, "makeRoom", "(I)V"⟩
abbrev cX2_comeNew : ByteArray := prog_4_method_11_code
def yX2_comeNew : MethodName := ⟨RX2, "comeNew", "(I)V"⟩
abbrev cX2_request : ByteArray := prog_4_method_12_code
def yX2_request : MethodName := ⟨RX2, "request", "(I)V"⟩
abbrev cX2_read : ByteArray := prog_4_method_13_code
def yX2_read : MethodName := ⟨RX2, "read", "(I)I"⟩
abbrev cX2_write : ByteArray := prog_4_method_14_code
def yX2_write : MethodName := ⟨RX2, "write", "(II)Z"⟩
abbrev cX2_flush : ByteArray := prog_4_method_15_code
def yX2_flush : MethodName := ⟨RX2, "flush", "()I"⟩
abbrev cX2_at : ByteArray := prog_4_method_16_code
def yX2_at : MethodName := ⟨RX2, "at", "(II)I"⟩
abbrev cX2_length : ByteArray := prog_4_method_17_code
def yX2_length : MethodName := ⟨RX2, "length", "(I)I"⟩
abbrev cX2_target : ByteArray := prog_4_method_18_code
def yX2_target : MethodName := ⟨RX2, "target", "()I"⟩
abbrev cX2_hits : ByteArray := prog_4_method_19_code
def yX2_hits : MethodName := ⟨RX2, "hits", "()I"⟩
abbrev cX2_misses : ByteArray := prog_4_method_20_code
def yX2_misses : MethodName := ⟨RX2, "misses", "()I"⟩
abbrev cX2_store : ByteArray := prog_4_method_21_code
def yX2_store : MethodName := ⟨RX2, "store", "(I)I"⟩
abbrev cX2_isDirty : ByteArray := prog_4_method_22_code
def yX2_isDirty : MethodName := ⟨RX2, "isDirty", "(I)Z"⟩
abbrev cX2_gone : ByteArray := prog_4_method_23_code
def yX2_gone : MethodName := ⟨RX2, "gone", "()I"⟩
def RJ9 : String := "java/lang/Math"
def TJ9 : u_T := fun k => match k with
  | _ => ("", "", "", false)
def tyJ9 : Nat → FieldType := fun k => match k with
  | _ => .int
abbrev wsJ90 : List Cond := u_ws RJ9 TJ9 0
theorem nmJ9 : ∀ a, a < 0 → ∀ b, b < 0 → a ≠ b → (TJ9 a).2.1 ≠ (TJ9 b).2.1 := by decide +kernel
theorem tyJ9_ok : ∀ k, k < 0 → parseFieldDescriptor (TJ9 k).2.2.1 = some (tyJ9 k) := by decide +kernel
abbrev cJ9_floorMod_7cf53 : ByteArray := prog_5_method_50_code
def yJ9_floorMod_7cf53 : MethodName := ⟨RJ9, "floorMod", "(II)I"⟩
abbrev cJ9_max_7cf53 : ByteArray := prog_5_method_65_code
def yJ9_max_7cf53 : MethodName := ⟨RJ9, "max", "(II)I"⟩
abbrev cJ9_min_7cf53 : ByteArray := prog_5_method_69_code
def yJ9_min_7cf53 : MethodName := ⟨RJ9, "min", "(II)I"⟩
def RJ10 : String := "java/lang/System"
def TJ10 : u_T := fun k => match k with
  | _ => ("", "", "", false)
def tyJ10 : Nat → FieldType := fun k => match k with
  | _ => .int
abbrev wsJ100 : List Cond := u_ws RJ10 TJ10 0
theorem nmJ10 : ∀ a, a < 0 → ∀ b, b < 0 → a ≠ b → (TJ10 a).2.1 ≠ (TJ10 b).2.1 := by decide +kernel
theorem tyJ10_ok : ∀ k, k < 0 → parseFieldDescriptor (TJ10 k).2.2.1 = some (tyJ10 k) := by decide +kernel
def RJ7 : String := "java/util/Arrays"
def TJ7 : u_T := fun k => match k with
  | _ => ("", "", "", false)
def tyJ7 : Nat → FieldType := fun k => match k with
  | _ => .int
abbrev wsJ70 : List Cond := u_ws RJ7 TJ7 0
theorem nmJ7 : ∀ a, a < 0 → ∀ b, b < 0 → a ≠ b → (TJ7 a).2.1 ≠ (TJ7 b).2.1 := by decide +kernel
theorem tyJ7_ok : ∀ k, k < 0 → parseFieldDescriptor (TJ7 k).2.2.1 = some (tyJ7 k) := by decide +kernel
abbrev cJ7_fill_53178 : ByteArray := prog_7_method_103_code
def yJ7_fill_53178 : MethodName := ⟨RJ7, "fill", "([II)V"⟩
def RL : String := "ArcCacheLaw"
abbrev cL_cell : ByteArray := method_2_code
def yL_cell : MethodName := ⟨RL, "cell", "([II)I"⟩
abbrev cL_law : ByteArray := code
def yL_law : MethodName := ⟨RL, "law", "([I)Z"⟩
def wsX0_init : List Cond := .code yX0_init cX0_init 1 none :: ([.methodLink RX0 3 objectInit, .instanceMethod objectInit, .code objectInit ⟨#[0xb1]⟩ 1 none, .arrayClass .int, .fieldLink RX0 9 "ArcCache$AddressList" "oldestFirst" "[I"] ++ wsX00)
def wsX0_size : List Cond := .code yX0_size cX0_size 1 (some .int) :: ([.fieldLink RX0 15 "ArcCache$AddressList" "count" "I"] ++ wsX00)
def wsX0_empty : List Cond := .code yX0_empty cX0_empty 1 none :: ([.fieldLink RX0 15 "ArcCache$AddressList" "count" "I"] ++ wsX00)
def wsX0_placeOf : List Cond := .code yX0_placeOf cX0_placeOf 3 (some .int) :: ([.fieldLink RX0 15 "ArcCache$AddressList" "count" "I", .fieldLink RX0 9 "ArcCache$AddressList" "oldestFirst" "[I"] ++ wsX00)
def wsX0_has : List Cond := .code yX0_has cX0_has 2 (some .boolean) :: ([.methodLink RX0 19 yX0_placeOf, .instanceMethod yX0_placeOf, .selects RX0 yX0_placeOf yX0_placeOf, .initialized RX0, .code yX0_placeOf cX0_placeOf 3 (some .int), .fieldLink RX0 15 "ArcCache$AddressList" "count" "I", .fieldLink RX0 9 "ArcCache$AddressList" "oldestFirst" "[I"] ++ wsX00)
def wsX0_fromNewest : List Cond := .code yX0_fromNewest cX0_fromNewest 2 (some .int) :: ([.fieldLink RX0 15 "ArcCache$AddressList" "count" "I", .fieldLink RX0 9 "ArcCache$AddressList" "oldestFirst" "[I"] ++ wsX00)
def wsX1_isAddress : List Cond := .code yX1_isAddress cX1_isAddress 1 (some .boolean) :: ([])
def wsX0_addNewest : List Cond := .code yX0_addNewest cX0_addNewest 2 none :: ([.fieldLink RX0 15 "ArcCache$AddressList" "count" "I", .fieldLink RX0 9 "ArcCache$AddressList" "oldestFirst" "[I", .static yX1_isAddress, .initialized RX1, .code yX1_isAddress cX1_isAddress 1 (some .boolean)] ++ wsX00)
def wsX0_oldest : List Cond := .code yX0_oldest cX0_oldest 1 (some .int) :: ([.fieldLink RX0 15 "ArcCache$AddressList" "count" "I", .methodLink RX0 27 yX0_fromNewest, .instanceMethod yX0_fromNewest, .selects RX0 yX0_fromNewest yX0_fromNewest, .initialized RX0, .code yX0_fromNewest cX0_fromNewest 2 (some .int), .fieldLink RX0 9 "ArcCache$AddressList" "oldestFirst" "[I"] ++ wsX00)
def wsX0_remove : List Cond := .code yX0_remove cX0_remove 3 none :: ([.fieldLink RX0 15 "ArcCache$AddressList" "count" "I", .fieldLink RX0 9 "ArcCache$AddressList" "oldestFirst" "[I", .methodLink RX0 38 arraycopyName, .native arraycopyName, .static arraycopyName, .initialized "java/lang/System", .methodLink RX0 19 yX0_placeOf, .instanceMethod yX0_placeOf, .selects RX0 yX0_placeOf yX0_placeOf, .initialized RX0, .code yX0_placeOf cX0_placeOf 3 (some .int)] ++ wsX00)
def wsX0_dropOldest : List Cond := .code yX0_dropOldest cX0_dropOldest 1 none :: ([.methodLink RX0 30 yX0_oldest, .instanceMethod yX0_oldest, .selects RX0 yX0_oldest yX0_oldest, .initialized RX0, .code yX0_oldest cX0_oldest 1 (some .int), .fieldLink RX0 15 "ArcCache$AddressList" "count" "I", .methodLink RX0 27 yX0_fromNewest, .instanceMethod yX0_fromNewest, .selects RX0 yX0_fromNewest yX0_fromNewest, .code yX0_fromNewest cX0_fromNewest 2 (some .int), .fieldLink RX0 9 "ArcCache$AddressList" "oldestFirst" "[I", .methodLink RX0 34 yX0_remove, .instanceMethod yX0_remove, .selects RX0 yX0_remove yX0_remove, .code yX0_remove cX0_remove 3 none, .methodLink RX0 38 arraycopyName, .native arraycopyName, .static arraycopyName, .initialized "java/lang/System", .methodLink RX0 19 yX0_placeOf, .instanceMethod yX0_placeOf, .selects RX0 yX0_placeOf yX0_placeOf, .code yX0_placeOf cX0_placeOf 3 (some .int)] ++ wsX00)
def wsJ9_floorMod_7cf53 : List Cond := .code yJ9_floorMod_7cf53 cJ9_floorMod_7cf53 3 (some .int) :: ([])
def wsX1_init : List Cond := .code yX1_init cX1_init 2 none :: ([.methodLink RX1 1 objectInit, .instanceMethod objectInit, .code objectInit ⟨#[0xb1]⟩ 1 none, .classLink RX1 7 RX0, .instantiable RX0 2, .initialized RX0, .fieldLink RX1 10 "ArcCache" "cameOnce" "LArcCache$AddressList;", .fieldLink RX1 16 "ArcCache" "cameAgain" "LArcCache$AddressList;", .fieldLink RX1 19 "ArcCache" "wentOnce" "LArcCache$AddressList;", .fieldLink RX1 22 "ArcCache" "wentAgain" "LArcCache$AddressList;", .arrayClass .int, .fieldLink RX1 25 "ArcCache" "pageWords" "[I", .arrayClass .boolean, .fieldLink RX1 29 "ArcCache" "dirtyPages" "[Z", .fieldLink RX1 33 "ArcCache" "storeWords" "[I", .fieldLink RX1 42 "ArcCache" "pages" "I", .instanceMethod yX0_init, .code yX0_init cX0_init 1 none, .methodLink RX0 3 objectInit, .fieldLink RX0 9 "ArcCache$AddressList" "oldestFirst" "[I", .methodLink RX1 36 yJ9_floorMod_7cf53, .static yJ9_floorMod_7cf53, .initialized RJ9, .code yJ9_floorMod_7cf53 cJ9_floorMod_7cf53 3 (some .int)] ++ wsX00 ++ wsX10)
def wsJ7_fill_53178 : List Cond := .code yJ7_fill_53178 cJ7_fill_53178 4 none :: ([])
def wsX1_init_ : List Cond := .code yX1_init_ cX1_init_ 2 none :: ([.fieldLink RX1 10 "ArcCache" "cameOnce" "LArcCache$AddressList;", .fieldLink RX1 16 "ArcCache" "cameAgain" "LArcCache$AddressList;", .fieldLink RX1 19 "ArcCache" "wentOnce" "LArcCache$AddressList;", .fieldLink RX1 22 "ArcCache" "wentAgain" "LArcCache$AddressList;", .fieldLink RX1 25 "ArcCache" "pageWords" "[I", .fieldLink RX1 33 "ArcCache" "storeWords" "[I", .fieldLink RX1 29 "ArcCache" "dirtyPages" "[Z", .fieldLink RX1 55 "ArcCache" "targetCount" "I", .fieldLink RX1 58 "ArcCache" "hitCount" "I", .fieldLink RX1 61 "ArcCache" "missCount" "I", .fieldLink RX1 64 "ArcCache" "goneCount" "I", .methodLink RX1 46 yX0_empty, .instanceMethod yX0_empty, .selects RX0 yX0_empty yX0_empty, .initialized RX0, .code yX0_empty cX0_empty 1 none, .fieldLink RX0 15 "ArcCache$AddressList" "count" "I", .methodLink RX1 49 yJ7_fill_53178, .static yJ7_fill_53178, .initialized RJ7, .code yJ7_fill_53178 cJ7_fill_53178 4 none] ++ wsX10 ++ wsX00)
def wsX1_listNumbered : List Cond := .code yX1_listNumbered cX1_listNumbered 2 (some (.object "ArcCache$AddressList")) :: ([.fieldLink RX1 10 "ArcCache" "cameOnce" "LArcCache$AddressList;", .fieldLink RX1 16 "ArcCache" "cameAgain" "LArcCache$AddressList;", .fieldLink RX1 19 "ArcCache" "wentOnce" "LArcCache$AddressList;", .fieldLink RX1 22 "ArcCache" "wentAgain" "LArcCache$AddressList;"] ++ wsX10)
def wsX1_whichList : List Cond := .code yX1_whichList cX1_whichList 3 (some .int) :: ([.methodLink RX1 78 yX1_listNumbered, .instanceMethod yX1_listNumbered, .selects RX1 yX1_listNumbered yX1_listNumbered, .initialized RX1, .code yX1_listNumbered cX1_listNumbered 2 (some (.object "ArcCache$AddressList")), .fieldLink RX1 10 "ArcCache" "cameOnce" "LArcCache$AddressList;", .fieldLink RX1 16 "ArcCache" "cameAgain" "LArcCache$AddressList;", .fieldLink RX1 19 "ArcCache" "wentOnce" "LArcCache$AddressList;", .fieldLink RX1 22 "ArcCache" "wentAgain" "LArcCache$AddressList;", .methodLink RX1 82 yX0_has, .instanceMethod yX0_has, .selects RX0 yX0_has yX0_has, .initialized RX0, .code yX0_has cX0_has 2 (some .boolean), .methodLink RX0 19 yX0_placeOf, .instanceMethod yX0_placeOf, .selects RX0 yX0_placeOf yX0_placeOf, .code yX0_placeOf cX0_placeOf 3 (some .int), .fieldLink RX0 15 "ArcCache$AddressList" "count" "I", .fieldLink RX0 9 "ArcCache$AddressList" "oldestFirst" "[I"] ++ wsX10 ++ wsX00)
def wsX1_moveToCameAgain_r1 : List Cond := [Cond.fieldLink RX1 16 "ArcCache" "cameAgain" "LArcCache$AddressList;", Cond.methodLink RX1 78 yX1_listNumbered, Cond.instanceMethod yX1_listNumbered, Cond.selects RX1 yX1_listNumbered yX1_listNumbered, Cond.initialized RX1, Cond.code yX1_listNumbered cX1_listNumbered 2 (some (.object "ArcCache$AddressList")), Cond.fieldLink RX1 10 "ArcCache" "cameOnce" "LArcCache$AddressList;", Cond.fieldLink RX1 19 "ArcCache" "wentOnce" "LArcCache$AddressList;", Cond.fieldLink RX1 22 "ArcCache" "wentAgain" "LArcCache$AddressList;", Cond.methodLink RX1 118 yX0_remove, Cond.instanceMethod yX0_remove, Cond.selects RX0 yX0_remove yX0_remove, Cond.initialized RX0, Cond.code yX0_remove cX0_remove 3 none, Cond.fieldLink RX0 15 "ArcCache$AddressList" "count" "I", Cond.fieldLink RX0 9 "ArcCache$AddressList" "oldestFirst" "[I", Cond.methodLink RX0 38 arraycopyName, Cond.native arraycopyName, Cond.static arraycopyName, Cond.initialized "java/lang/System", Cond.methodLink RX0 19 yX0_placeOf, Cond.instanceMethod yX0_placeOf, Cond.selects RX0 yX0_placeOf yX0_placeOf, Cond.code yX0_placeOf cX0_placeOf 3 (some .int)]
def wsX1_moveToCameAgain_r2 : List Cond := [Cond.methodLink RX1 106 yX0_addNewest, Cond.instanceMethod yX0_addNewest, Cond.selects RX0 yX0_addNewest yX0_addNewest, Cond.code yX0_addNewest cX0_addNewest 2 none, Cond.static yX1_isAddress, Cond.code yX1_isAddress cX1_isAddress 1 (some .boolean)]
def wsX1_moveToCameAgain : List Cond := .code yX1_moveToCameAgain cX1_moveToCameAgain 3 none :: ((wsX1_moveToCameAgain_r1 ++ wsX1_moveToCameAgain_r2) ++ wsX10 ++ wsX00)
def wsX1_writeBack : List Cond := .code yX1_writeBack cX1_writeBack 2 none :: ([.fieldLink RX1 33 "ArcCache" "storeWords" "[I", .fieldLink RX1 25 "ArcCache" "pageWords" "[I", .fieldLink RX1 29 "ArcCache" "dirtyPages" "[Z"] ++ wsX10)
def wsX1_pageGoes : List Cond := .code yX1_pageGoes cX1_pageGoes 2 none :: ([.fieldLink RX1 29 "ArcCache" "dirtyPages" "[Z", .fieldLink RX1 64 "ArcCache" "goneCount" "I", .methodLink RX1 67 yX1_isAddress, .static yX1_isAddress, .initialized RX1, .code yX1_isAddress cX1_isAddress 1 (some .boolean), .methodLink RX1 75 yX1_writeBack, .instanceMethod yX1_writeBack, .selects RX1 yX1_writeBack yX1_writeBack, .code yX1_writeBack cX1_writeBack 2 none, .fieldLink RX1 33 "ArcCache" "storeWords" "[I", .fieldLink RX1 25 "ArcCache" "pageWords" "[I"] ++ wsX10)
def wsX1_oldestGoes_r1 : List Cond := [Cond.methodLink RX1 134 yX0_oldest, Cond.instanceMethod yX0_oldest, Cond.selects RX0 yX0_oldest yX0_oldest, Cond.initialized RX0, Cond.code yX0_oldest cX0_oldest 1 (some .int), Cond.fieldLink RX0 15 "ArcCache$AddressList" "count" "I", Cond.methodLink RX0 27 yX0_fromNewest, Cond.instanceMethod yX0_fromNewest, Cond.selects RX0 yX0_fromNewest yX0_fromNewest, Cond.code yX0_fromNewest cX0_fromNewest 2 (some .int), Cond.fieldLink RX0 9 "ArcCache$AddressList" "oldestFirst" "[I", Cond.methodLink RX1 137 yX1_pageGoes, Cond.instanceMethod yX1_pageGoes, Cond.selects RX1 yX1_pageGoes yX1_pageGoes, Cond.initialized RX1, Cond.code yX1_pageGoes cX1_pageGoes 2 none, Cond.fieldLink RX1 29 "ArcCache" "dirtyPages" "[Z", Cond.fieldLink RX1 64 "ArcCache" "goneCount" "I", Cond.methodLink RX1 67 yX1_isAddress, Cond.static yX1_isAddress, Cond.code yX1_isAddress cX1_isAddress 1 (some .boolean), Cond.methodLink RX1 75 yX1_writeBack, Cond.instanceMethod yX1_writeBack, Cond.selects RX1 yX1_writeBack yX1_writeBack]
def wsX1_oldestGoes_r2 : List Cond := [Cond.code yX1_writeBack cX1_writeBack 2 none, Cond.fieldLink RX1 33 "ArcCache" "storeWords" "[I", Cond.fieldLink RX1 25 "ArcCache" "pageWords" "[I", Cond.methodLink RX1 118 yX0_remove, Cond.instanceMethod yX0_remove, Cond.selects RX0 yX0_remove yX0_remove, Cond.code yX0_remove cX0_remove 3 none, Cond.methodLink RX0 38 arraycopyName, Cond.native arraycopyName, Cond.static arraycopyName, Cond.initialized "java/lang/System", Cond.methodLink RX0 19 yX0_placeOf, Cond.instanceMethod yX0_placeOf, Cond.selects RX0 yX0_placeOf yX0_placeOf, Cond.code yX0_placeOf cX0_placeOf 3 (some .int), Cond.methodLink RX1 106 yX0_addNewest, Cond.instanceMethod yX0_addNewest, Cond.selects RX0 yX0_addNewest yX0_addNewest, Cond.code yX0_addNewest cX0_addNewest 2 none]
def wsX1_oldestGoes : List Cond := .code yX1_oldestGoes cX1_oldestGoes 4 none :: ((wsX1_oldestGoes_r1 ++ wsX1_oldestGoes_r2) ++ wsX00 ++ wsX10)
def wsX1_makeRoom_r1 : List Cond := [Cond.fieldLink RX1 10 "ArcCache" "cameOnce" "LArcCache$AddressList;", Cond.fieldLink RX1 55 "ArcCache" "targetCount" "I", Cond.fieldLink RX1 22 "ArcCache" "wentAgain" "LArcCache$AddressList;", Cond.fieldLink RX1 19 "ArcCache" "wentOnce" "LArcCache$AddressList;", Cond.fieldLink RX1 16 "ArcCache" "cameAgain" "LArcCache$AddressList;", Cond.methodLink RX1 92 yX0_size, Cond.instanceMethod yX0_size, Cond.selects RX0 yX0_size yX0_size, Cond.initialized RX0, Cond.code yX0_size cX0_size 1 (some .int), Cond.fieldLink RX0 15 "ArcCache$AddressList" "count" "I", Cond.methodLink RX1 82 yX0_has, Cond.instanceMethod yX0_has, Cond.selects RX0 yX0_has yX0_has, Cond.code yX0_has cX0_has 2 (some .boolean), Cond.methodLink RX0 19 yX0_placeOf, Cond.instanceMethod yX0_placeOf, Cond.selects RX0 yX0_placeOf yX0_placeOf, Cond.code yX0_placeOf cX0_placeOf 3 (some .int), Cond.fieldLink RX0 9 "ArcCache$AddressList" "oldestFirst" "[I", Cond.methodLink RX1 130 yX1_oldestGoes, Cond.instanceMethod yX1_oldestGoes, Cond.selects RX1 yX1_oldestGoes yX1_oldestGoes, Cond.initialized RX1]
def wsX1_makeRoom_r2 : List Cond := [Cond.code yX1_oldestGoes cX1_oldestGoes 4 none, Cond.methodLink RX1 134 yX0_oldest, Cond.instanceMethod yX0_oldest, Cond.selects RX0 yX0_oldest yX0_oldest, Cond.code yX0_oldest cX0_oldest 1 (some .int), Cond.methodLink RX0 27 yX0_fromNewest, Cond.instanceMethod yX0_fromNewest, Cond.selects RX0 yX0_fromNewest yX0_fromNewest, Cond.code yX0_fromNewest cX0_fromNewest 2 (some .int), Cond.methodLink RX1 137 yX1_pageGoes, Cond.instanceMethod yX1_pageGoes, Cond.selects RX1 yX1_pageGoes yX1_pageGoes, Cond.code yX1_pageGoes cX1_pageGoes 2 none, Cond.fieldLink RX1 29 "ArcCache" "dirtyPages" "[Z", Cond.fieldLink RX1 64 "ArcCache" "goneCount" "I", Cond.methodLink RX1 67 yX1_isAddress, Cond.static yX1_isAddress, Cond.code yX1_isAddress cX1_isAddress 1 (some .boolean), Cond.methodLink RX1 75 yX1_writeBack, Cond.instanceMethod yX1_writeBack, Cond.selects RX1 yX1_writeBack yX1_writeBack, Cond.code yX1_writeBack cX1_writeBack 2 none, Cond.fieldLink RX1 33 "ArcCache" "storeWords" "[I", Cond.fieldLink RX1 25 "ArcCache" "pageWords" "[I"]
def wsX1_makeRoom_r3 : List Cond := [Cond.methodLink RX1 118 yX0_remove, Cond.instanceMethod yX0_remove, Cond.selects RX0 yX0_remove yX0_remove, Cond.code yX0_remove cX0_remove 3 none, Cond.methodLink RX0 38 arraycopyName, Cond.native arraycopyName, Cond.static arraycopyName, Cond.initialized "java/lang/System", Cond.methodLink RX1 106 yX0_addNewest, Cond.instanceMethod yX0_addNewest, Cond.selects RX0 yX0_addNewest yX0_addNewest, Cond.code yX0_addNewest cX0_addNewest 2 none]
def wsX1_makeRoom : List Cond := .code yX1_makeRoom cX1_makeRoom 4 none :: ((wsX1_makeRoom_r1 ++ (wsX1_makeRoom_r2 ++ wsX1_makeRoom_r3)) ++ wsX10 ++ wsX00)
def wsX1_makeRoomForUnknown_r1 : List Cond := [Cond.fieldLink RX1 10 "ArcCache" "cameOnce" "LArcCache$AddressList;", Cond.fieldLink RX1 19 "ArcCache" "wentOnce" "LArcCache$AddressList;", Cond.fieldLink RX1 16 "ArcCache" "cameAgain" "LArcCache$AddressList;", Cond.fieldLink RX1 22 "ArcCache" "wentAgain" "LArcCache$AddressList;", Cond.fieldLink RX1 42 "ArcCache" "pages" "I", Cond.methodLink RX1 92 yX0_size, Cond.instanceMethod yX0_size, Cond.selects RX0 yX0_size yX0_size, Cond.initialized RX0, Cond.code yX0_size cX0_size 1 (some .int), Cond.fieldLink RX0 15 "ArcCache$AddressList" "count" "I", Cond.methodLink RX1 134 yX0_oldest, Cond.instanceMethod yX0_oldest, Cond.selects RX0 yX0_oldest yX0_oldest, Cond.code yX0_oldest cX0_oldest 1 (some .int), Cond.methodLink RX0 27 yX0_fromNewest, Cond.instanceMethod yX0_fromNewest, Cond.selects RX0 yX0_fromNewest yX0_fromNewest, Cond.code yX0_fromNewest cX0_fromNewest 2 (some .int), Cond.fieldLink RX0 9 "ArcCache$AddressList" "oldestFirst" "[I", Cond.methodLink RX1 137 yX1_pageGoes, Cond.instanceMethod yX1_pageGoes, Cond.selects RX1 yX1_pageGoes yX1_pageGoes, Cond.initialized RX1]
def wsX1_makeRoomForUnknown_r2 : List Cond := [Cond.code yX1_pageGoes cX1_pageGoes 2 none, Cond.fieldLink RX1 29 "ArcCache" "dirtyPages" "[Z", Cond.fieldLink RX1 64 "ArcCache" "goneCount" "I", Cond.methodLink RX1 67 yX1_isAddress, Cond.static yX1_isAddress, Cond.code yX1_isAddress cX1_isAddress 1 (some .boolean), Cond.methodLink RX1 75 yX1_writeBack, Cond.instanceMethod yX1_writeBack, Cond.selects RX1 yX1_writeBack yX1_writeBack, Cond.code yX1_writeBack cX1_writeBack 2 none, Cond.fieldLink RX1 33 "ArcCache" "storeWords" "[I", Cond.fieldLink RX1 25 "ArcCache" "pageWords" "[I", Cond.methodLink RX1 140 yX0_dropOldest, Cond.instanceMethod yX0_dropOldest, Cond.selects RX0 yX0_dropOldest yX0_dropOldest, Cond.code yX0_dropOldest cX0_dropOldest 1 none, Cond.methodLink RX0 30 yX0_oldest, Cond.methodLink RX0 34 yX0_remove, Cond.instanceMethod yX0_remove, Cond.selects RX0 yX0_remove yX0_remove, Cond.code yX0_remove cX0_remove 3 none, Cond.methodLink RX0 38 arraycopyName, Cond.native arraycopyName, Cond.static arraycopyName]
def wsX1_makeRoomForUnknown_r3 : List Cond := [Cond.initialized "java/lang/System", Cond.methodLink RX0 19 yX0_placeOf, Cond.instanceMethod yX0_placeOf, Cond.selects RX0 yX0_placeOf yX0_placeOf, Cond.code yX0_placeOf cX0_placeOf 3 (some .int), Cond.methodLink RX1 112 yX1_makeRoom, Cond.instanceMethod yX1_makeRoom, Cond.selects RX1 yX1_makeRoom yX1_makeRoom, Cond.code yX1_makeRoom cX1_makeRoom 4 none, Cond.fieldLink RX1 55 "ArcCache" "targetCount" "I", Cond.methodLink RX1 82 yX0_has, Cond.instanceMethod yX0_has, Cond.selects RX0 yX0_has yX0_has, Cond.code yX0_has cX0_has 2 (some .boolean), Cond.methodLink RX1 130 yX1_oldestGoes, Cond.instanceMethod yX1_oldestGoes, Cond.selects RX1 yX1_oldestGoes yX1_oldestGoes, Cond.code yX1_oldestGoes cX1_oldestGoes 4 none, Cond.methodLink RX1 118 yX0_remove, Cond.methodLink RX1 106 yX0_addNewest, Cond.instanceMethod yX0_addNewest, Cond.selects RX0 yX0_addNewest yX0_addNewest, Cond.code yX0_addNewest cX0_addNewest 2 none]
def wsX1_makeRoomForUnknown : List Cond := .code yX1_makeRoomForUnknown cX1_makeRoomForUnknown 4 none :: ((wsX1_makeRoomForUnknown_r1 ++ (wsX1_makeRoomForUnknown_r2 ++ wsX1_makeRoomForUnknown_r3)) ++ wsX10 ++ wsX00)
def wsX1_stepOf : List Cond := .code yX1_stepOf cX1_stepOf 2 (some .int) :: ([.methodLink RX1 127 Lib.Math.max.name, .static Lib.Math.max.name, .initialized "java/lang/Math", .code Lib.Math.max.name Lib.Math.max.code 2 (some .int)])
def wsX1_moveTarget : List Cond := .code yX1_moveTarget cX1_moveTarget 3 none :: ([.fieldLink RX1 22 "ArcCache" "wentAgain" "LArcCache$AddressList;", .fieldLink RX1 19 "ArcCache" "wentOnce" "LArcCache$AddressList;", .fieldLink RX1 42 "ArcCache" "pages" "I", .fieldLink RX1 55 "ArcCache" "targetCount" "I", .methodLink RX1 124 Lib.Math.min.name, .static Lib.Math.min.name, .initialized "java/lang/Math", .code Lib.Math.min.name Lib.Math.min.code 2 (some .int), .methodLink RX1 127 Lib.Math.max.name, .static Lib.Math.max.name, .code Lib.Math.max.name Lib.Math.max.code 2 (some .int), .methodLink RX1 92 yX0_size, .instanceMethod yX0_size, .selects RX0 yX0_size yX0_size, .initialized RX0, .code yX0_size cX0_size 1 (some .int), .fieldLink RX0 15 "ArcCache$AddressList" "count" "I", .methodLink RX1 121 yX1_stepOf, .static yX1_stepOf, .initialized RX1, .code yX1_stepOf cX1_stepOf 2 (some .int)] ++ wsX10 ++ wsX00)
def wsX1_bringPage : List Cond := .code yX1_bringPage cX1_bringPage 2 none :: ([.fieldLink RX1 25 "ArcCache" "pageWords" "[I", .fieldLink RX1 33 "ArcCache" "storeWords" "[I", .fieldLink RX1 29 "ArcCache" "dirtyPages" "[Z"] ++ wsX10)
def wsX1_request_r1 : List Cond := [Cond.fieldLink RX1 58 "ArcCache" "hitCount" "I", Cond.fieldLink RX1 61 "ArcCache" "missCount" "I", Cond.fieldLink RX1 10 "ArcCache" "cameOnce" "LArcCache$AddressList;", Cond.methodLink RX1 96 yX1_whichList, Cond.instanceMethod yX1_whichList, Cond.selects RX1 yX1_whichList yX1_whichList, Cond.initialized RX1, Cond.code yX1_whichList cX1_whichList 3 (some .int), Cond.methodLink RX1 78 yX1_listNumbered, Cond.instanceMethod yX1_listNumbered, Cond.selects RX1 yX1_listNumbered yX1_listNumbered, Cond.code yX1_listNumbered cX1_listNumbered 2 (some (.object "ArcCache$AddressList")), Cond.fieldLink RX1 16 "ArcCache" "cameAgain" "LArcCache$AddressList;", Cond.fieldLink RX1 19 "ArcCache" "wentOnce" "LArcCache$AddressList;", Cond.fieldLink RX1 22 "ArcCache" "wentAgain" "LArcCache$AddressList;", Cond.methodLink RX1 82 yX0_has, Cond.instanceMethod yX0_has, Cond.selects RX0 yX0_has yX0_has, Cond.initialized RX0, Cond.code yX0_has cX0_has 2 (some .boolean), Cond.methodLink RX0 19 yX0_placeOf, Cond.instanceMethod yX0_placeOf, Cond.selects RX0 yX0_placeOf yX0_placeOf, Cond.code yX0_placeOf cX0_placeOf 3 (some .int)]
def wsX1_request_r2 : List Cond := [Cond.fieldLink RX0 15 "ArcCache$AddressList" "count" "I", Cond.fieldLink RX0 9 "ArcCache$AddressList" "oldestFirst" "[I", Cond.methodLink RX1 99 yX1_moveToCameAgain, Cond.instanceMethod yX1_moveToCameAgain, Cond.selects RX1 yX1_moveToCameAgain yX1_moveToCameAgain, Cond.code yX1_moveToCameAgain cX1_moveToCameAgain 3 none, Cond.methodLink RX1 118 yX0_remove, Cond.instanceMethod yX0_remove, Cond.selects RX0 yX0_remove yX0_remove, Cond.code yX0_remove cX0_remove 3 none, Cond.methodLink RX0 38 arraycopyName, Cond.native arraycopyName, Cond.static arraycopyName, Cond.initialized "java/lang/System", Cond.methodLink RX1 106 yX0_addNewest, Cond.instanceMethod yX0_addNewest, Cond.selects RX0 yX0_addNewest yX0_addNewest, Cond.code yX0_addNewest cX0_addNewest 2 none, Cond.static yX1_isAddress, Cond.code yX1_isAddress cX1_isAddress 1 (some .boolean), Cond.methodLink RX1 103 yX1_makeRoomForUnknown, Cond.instanceMethod yX1_makeRoomForUnknown, Cond.selects RX1 yX1_makeRoomForUnknown yX1_makeRoomForUnknown, Cond.code yX1_makeRoomForUnknown cX1_makeRoomForUnknown 4 none]
def wsX1_request_r3 : List Cond := [Cond.fieldLink RX1 42 "ArcCache" "pages" "I", Cond.methodLink RX1 92 yX0_size, Cond.instanceMethod yX0_size, Cond.selects RX0 yX0_size yX0_size, Cond.code yX0_size cX0_size 1 (some .int), Cond.methodLink RX1 134 yX0_oldest, Cond.instanceMethod yX0_oldest, Cond.selects RX0 yX0_oldest yX0_oldest, Cond.code yX0_oldest cX0_oldest 1 (some .int), Cond.methodLink RX0 27 yX0_fromNewest, Cond.instanceMethod yX0_fromNewest, Cond.selects RX0 yX0_fromNewest yX0_fromNewest, Cond.code yX0_fromNewest cX0_fromNewest 2 (some .int), Cond.methodLink RX1 137 yX1_pageGoes, Cond.instanceMethod yX1_pageGoes, Cond.selects RX1 yX1_pageGoes yX1_pageGoes, Cond.code yX1_pageGoes cX1_pageGoes 2 none, Cond.fieldLink RX1 29 "ArcCache" "dirtyPages" "[Z", Cond.fieldLink RX1 64 "ArcCache" "goneCount" "I", Cond.methodLink RX1 67 yX1_isAddress, Cond.methodLink RX1 75 yX1_writeBack, Cond.instanceMethod yX1_writeBack, Cond.selects RX1 yX1_writeBack yX1_writeBack, Cond.code yX1_writeBack cX1_writeBack 2 none]
def wsX1_request_r4 : List Cond := [Cond.fieldLink RX1 33 "ArcCache" "storeWords" "[I", Cond.fieldLink RX1 25 "ArcCache" "pageWords" "[I", Cond.methodLink RX1 140 yX0_dropOldest, Cond.instanceMethod yX0_dropOldest, Cond.selects RX0 yX0_dropOldest yX0_dropOldest, Cond.code yX0_dropOldest cX0_dropOldest 1 none, Cond.methodLink RX0 30 yX0_oldest, Cond.methodLink RX0 34 yX0_remove, Cond.methodLink RX1 112 yX1_makeRoom, Cond.instanceMethod yX1_makeRoom, Cond.selects RX1 yX1_makeRoom yX1_makeRoom, Cond.code yX1_makeRoom cX1_makeRoom 4 none, Cond.fieldLink RX1 55 "ArcCache" "targetCount" "I", Cond.methodLink RX1 130 yX1_oldestGoes, Cond.instanceMethod yX1_oldestGoes, Cond.selects RX1 yX1_oldestGoes yX1_oldestGoes, Cond.code yX1_oldestGoes cX1_oldestGoes 4 none, Cond.methodLink RX1 109 yX1_moveTarget, Cond.instanceMethod yX1_moveTarget, Cond.selects RX1 yX1_moveTarget yX1_moveTarget, Cond.code yX1_moveTarget cX1_moveTarget 3 none, Cond.methodLink RX1 124 Lib.Math.min.name, Cond.static Lib.Math.min.name, Cond.initialized "java/lang/Math"]
def wsX1_request_r5 : List Cond := [Cond.code Lib.Math.min.name Lib.Math.min.code 2 (some .int), Cond.methodLink RX1 127 Lib.Math.max.name, Cond.static Lib.Math.max.name, Cond.code Lib.Math.max.name Lib.Math.max.code 2 (some .int), Cond.methodLink RX1 121 yX1_stepOf, Cond.static yX1_stepOf, Cond.code yX1_stepOf cX1_stepOf 2 (some .int), Cond.methodLink RX1 115 yX1_bringPage, Cond.instanceMethod yX1_bringPage, Cond.selects RX1 yX1_bringPage yX1_bringPage, Cond.code yX1_bringPage cX1_bringPage 2 none]
def wsX1_request : List Cond := .code yX1_request cX1_request 3 none :: ((wsX1_request_r1 ++ (wsX1_request_r2 ++ (wsX1_request_r3 ++ (wsX1_request_r4 ++ wsX1_request_r5)))) ++ wsX10 ++ wsX00)
def wsX1_read_r1 : List Cond := [Cond.fieldLink RX1 25 "ArcCache" "pageWords" "[I", Cond.methodLink RX1 67 yX1_isAddress, Cond.static yX1_isAddress, Cond.initialized RX1, Cond.code yX1_isAddress cX1_isAddress 1 (some .boolean), Cond.methodLink RX1 71 yX1_request, Cond.instanceMethod yX1_request, Cond.selects RX1 yX1_request yX1_request, Cond.code yX1_request cX1_request 3 none, Cond.fieldLink RX1 58 "ArcCache" "hitCount" "I", Cond.fieldLink RX1 61 "ArcCache" "missCount" "I", Cond.fieldLink RX1 10 "ArcCache" "cameOnce" "LArcCache$AddressList;", Cond.methodLink RX1 96 yX1_whichList, Cond.instanceMethod yX1_whichList, Cond.selects RX1 yX1_whichList yX1_whichList, Cond.code yX1_whichList cX1_whichList 3 (some .int), Cond.methodLink RX1 78 yX1_listNumbered, Cond.instanceMethod yX1_listNumbered, Cond.selects RX1 yX1_listNumbered yX1_listNumbered, Cond.code yX1_listNumbered cX1_listNumbered 2 (some (.object "ArcCache$AddressList")), Cond.fieldLink RX1 16 "ArcCache" "cameAgain" "LArcCache$AddressList;", Cond.fieldLink RX1 19 "ArcCache" "wentOnce" "LArcCache$AddressList;", Cond.fieldLink RX1 22 "ArcCache" "wentAgain" "LArcCache$AddressList;", Cond.methodLink RX1 82 yX0_has]
def wsX1_read_r2 : List Cond := [Cond.instanceMethod yX0_has, Cond.selects RX0 yX0_has yX0_has, Cond.initialized RX0, Cond.code yX0_has cX0_has 2 (some .boolean), Cond.methodLink RX0 19 yX0_placeOf, Cond.instanceMethod yX0_placeOf, Cond.selects RX0 yX0_placeOf yX0_placeOf, Cond.code yX0_placeOf cX0_placeOf 3 (some .int), Cond.fieldLink RX0 15 "ArcCache$AddressList" "count" "I", Cond.fieldLink RX0 9 "ArcCache$AddressList" "oldestFirst" "[I", Cond.methodLink RX1 99 yX1_moveToCameAgain, Cond.instanceMethod yX1_moveToCameAgain, Cond.selects RX1 yX1_moveToCameAgain yX1_moveToCameAgain, Cond.code yX1_moveToCameAgain cX1_moveToCameAgain 3 none, Cond.methodLink RX1 118 yX0_remove, Cond.instanceMethod yX0_remove, Cond.selects RX0 yX0_remove yX0_remove, Cond.code yX0_remove cX0_remove 3 none, Cond.methodLink RX0 38 arraycopyName, Cond.native arraycopyName, Cond.static arraycopyName, Cond.initialized "java/lang/System", Cond.methodLink RX1 106 yX0_addNewest, Cond.instanceMethod yX0_addNewest]
def wsX1_read_r3 : List Cond := [Cond.selects RX0 yX0_addNewest yX0_addNewest, Cond.code yX0_addNewest cX0_addNewest 2 none, Cond.methodLink RX1 103 yX1_makeRoomForUnknown, Cond.instanceMethod yX1_makeRoomForUnknown, Cond.selects RX1 yX1_makeRoomForUnknown yX1_makeRoomForUnknown, Cond.code yX1_makeRoomForUnknown cX1_makeRoomForUnknown 4 none, Cond.fieldLink RX1 42 "ArcCache" "pages" "I", Cond.methodLink RX1 92 yX0_size, Cond.instanceMethod yX0_size, Cond.selects RX0 yX0_size yX0_size, Cond.code yX0_size cX0_size 1 (some .int), Cond.methodLink RX1 134 yX0_oldest, Cond.instanceMethod yX0_oldest, Cond.selects RX0 yX0_oldest yX0_oldest, Cond.code yX0_oldest cX0_oldest 1 (some .int), Cond.methodLink RX0 27 yX0_fromNewest, Cond.instanceMethod yX0_fromNewest, Cond.selects RX0 yX0_fromNewest yX0_fromNewest, Cond.code yX0_fromNewest cX0_fromNewest 2 (some .int), Cond.methodLink RX1 137 yX1_pageGoes, Cond.instanceMethod yX1_pageGoes, Cond.selects RX1 yX1_pageGoes yX1_pageGoes, Cond.code yX1_pageGoes cX1_pageGoes 2 none, Cond.fieldLink RX1 29 "ArcCache" "dirtyPages" "[Z"]
def wsX1_read_r4 : List Cond := [Cond.fieldLink RX1 64 "ArcCache" "goneCount" "I", Cond.methodLink RX1 75 yX1_writeBack, Cond.instanceMethod yX1_writeBack, Cond.selects RX1 yX1_writeBack yX1_writeBack, Cond.code yX1_writeBack cX1_writeBack 2 none, Cond.fieldLink RX1 33 "ArcCache" "storeWords" "[I", Cond.methodLink RX1 140 yX0_dropOldest, Cond.instanceMethod yX0_dropOldest, Cond.selects RX0 yX0_dropOldest yX0_dropOldest, Cond.code yX0_dropOldest cX0_dropOldest 1 none, Cond.methodLink RX0 30 yX0_oldest, Cond.methodLink RX0 34 yX0_remove, Cond.methodLink RX1 112 yX1_makeRoom, Cond.instanceMethod yX1_makeRoom, Cond.selects RX1 yX1_makeRoom yX1_makeRoom, Cond.code yX1_makeRoom cX1_makeRoom 4 none, Cond.fieldLink RX1 55 "ArcCache" "targetCount" "I", Cond.methodLink RX1 130 yX1_oldestGoes, Cond.instanceMethod yX1_oldestGoes, Cond.selects RX1 yX1_oldestGoes yX1_oldestGoes, Cond.code yX1_oldestGoes cX1_oldestGoes 4 none, Cond.methodLink RX1 109 yX1_moveTarget, Cond.instanceMethod yX1_moveTarget, Cond.selects RX1 yX1_moveTarget yX1_moveTarget]
def wsX1_read_r5 : List Cond := [Cond.code yX1_moveTarget cX1_moveTarget 3 none, Cond.methodLink RX1 124 Lib.Math.min.name, Cond.static Lib.Math.min.name, Cond.initialized "java/lang/Math", Cond.code Lib.Math.min.name Lib.Math.min.code 2 (some .int), Cond.methodLink RX1 127 Lib.Math.max.name, Cond.static Lib.Math.max.name, Cond.code Lib.Math.max.name Lib.Math.max.code 2 (some .int), Cond.methodLink RX1 121 yX1_stepOf, Cond.static yX1_stepOf, Cond.code yX1_stepOf cX1_stepOf 2 (some .int), Cond.methodLink RX1 115 yX1_bringPage, Cond.instanceMethod yX1_bringPage, Cond.selects RX1 yX1_bringPage yX1_bringPage, Cond.code yX1_bringPage cX1_bringPage 2 none]
def wsX1_read : List Cond := .code yX1_read cX1_read 2 (some .int) :: ((wsX1_read_r1 ++ (wsX1_read_r2 ++ (wsX1_read_r3 ++ (wsX1_read_r4 ++ wsX1_read_r5)))) ++ wsX10 ++ wsX00)
def wsX1_write_r1 : List Cond := [Cond.fieldLink RX1 25 "ArcCache" "pageWords" "[I", Cond.fieldLink RX1 29 "ArcCache" "dirtyPages" "[Z", Cond.methodLink RX1 67 yX1_isAddress, Cond.static yX1_isAddress, Cond.initialized RX1, Cond.code yX1_isAddress cX1_isAddress 1 (some .boolean), Cond.methodLink RX1 71 yX1_request, Cond.instanceMethod yX1_request, Cond.selects RX1 yX1_request yX1_request, Cond.code yX1_request cX1_request 3 none, Cond.fieldLink RX1 58 "ArcCache" "hitCount" "I", Cond.fieldLink RX1 61 "ArcCache" "missCount" "I", Cond.fieldLink RX1 10 "ArcCache" "cameOnce" "LArcCache$AddressList;", Cond.methodLink RX1 96 yX1_whichList, Cond.instanceMethod yX1_whichList, Cond.selects RX1 yX1_whichList yX1_whichList, Cond.code yX1_whichList cX1_whichList 3 (some .int), Cond.methodLink RX1 78 yX1_listNumbered, Cond.instanceMethod yX1_listNumbered, Cond.selects RX1 yX1_listNumbered yX1_listNumbered, Cond.code yX1_listNumbered cX1_listNumbered 2 (some (.object "ArcCache$AddressList")), Cond.fieldLink RX1 16 "ArcCache" "cameAgain" "LArcCache$AddressList;", Cond.fieldLink RX1 19 "ArcCache" "wentOnce" "LArcCache$AddressList;", Cond.fieldLink RX1 22 "ArcCache" "wentAgain" "LArcCache$AddressList;"]
def wsX1_write_r2 : List Cond := [Cond.methodLink RX1 82 yX0_has, Cond.instanceMethod yX0_has, Cond.selects RX0 yX0_has yX0_has, Cond.initialized RX0, Cond.code yX0_has cX0_has 2 (some .boolean), Cond.methodLink RX0 19 yX0_placeOf, Cond.instanceMethod yX0_placeOf, Cond.selects RX0 yX0_placeOf yX0_placeOf, Cond.code yX0_placeOf cX0_placeOf 3 (some .int), Cond.fieldLink RX0 15 "ArcCache$AddressList" "count" "I", Cond.fieldLink RX0 9 "ArcCache$AddressList" "oldestFirst" "[I", Cond.methodLink RX1 99 yX1_moveToCameAgain, Cond.instanceMethod yX1_moveToCameAgain, Cond.selects RX1 yX1_moveToCameAgain yX1_moveToCameAgain, Cond.code yX1_moveToCameAgain cX1_moveToCameAgain 3 none, Cond.methodLink RX1 118 yX0_remove, Cond.instanceMethod yX0_remove, Cond.selects RX0 yX0_remove yX0_remove, Cond.code yX0_remove cX0_remove 3 none, Cond.methodLink RX0 38 arraycopyName, Cond.native arraycopyName, Cond.static arraycopyName, Cond.initialized "java/lang/System", Cond.methodLink RX1 106 yX0_addNewest]
def wsX1_write_r3 : List Cond := [Cond.instanceMethod yX0_addNewest, Cond.selects RX0 yX0_addNewest yX0_addNewest, Cond.code yX0_addNewest cX0_addNewest 2 none, Cond.methodLink RX1 103 yX1_makeRoomForUnknown, Cond.instanceMethod yX1_makeRoomForUnknown, Cond.selects RX1 yX1_makeRoomForUnknown yX1_makeRoomForUnknown, Cond.code yX1_makeRoomForUnknown cX1_makeRoomForUnknown 4 none, Cond.fieldLink RX1 42 "ArcCache" "pages" "I", Cond.methodLink RX1 92 yX0_size, Cond.instanceMethod yX0_size, Cond.selects RX0 yX0_size yX0_size, Cond.code yX0_size cX0_size 1 (some .int), Cond.methodLink RX1 134 yX0_oldest, Cond.instanceMethod yX0_oldest, Cond.selects RX0 yX0_oldest yX0_oldest, Cond.code yX0_oldest cX0_oldest 1 (some .int), Cond.methodLink RX0 27 yX0_fromNewest, Cond.instanceMethod yX0_fromNewest, Cond.selects RX0 yX0_fromNewest yX0_fromNewest, Cond.code yX0_fromNewest cX0_fromNewest 2 (some .int), Cond.methodLink RX1 137 yX1_pageGoes, Cond.instanceMethod yX1_pageGoes, Cond.selects RX1 yX1_pageGoes yX1_pageGoes, Cond.code yX1_pageGoes cX1_pageGoes 2 none]
def wsX1_write_r4 : List Cond := [Cond.fieldLink RX1 64 "ArcCache" "goneCount" "I", Cond.methodLink RX1 75 yX1_writeBack, Cond.instanceMethod yX1_writeBack, Cond.selects RX1 yX1_writeBack yX1_writeBack, Cond.code yX1_writeBack cX1_writeBack 2 none, Cond.fieldLink RX1 33 "ArcCache" "storeWords" "[I", Cond.methodLink RX1 140 yX0_dropOldest, Cond.instanceMethod yX0_dropOldest, Cond.selects RX0 yX0_dropOldest yX0_dropOldest, Cond.code yX0_dropOldest cX0_dropOldest 1 none, Cond.methodLink RX0 30 yX0_oldest, Cond.methodLink RX0 34 yX0_remove, Cond.methodLink RX1 112 yX1_makeRoom, Cond.instanceMethod yX1_makeRoom, Cond.selects RX1 yX1_makeRoom yX1_makeRoom, Cond.code yX1_makeRoom cX1_makeRoom 4 none, Cond.fieldLink RX1 55 "ArcCache" "targetCount" "I", Cond.methodLink RX1 130 yX1_oldestGoes, Cond.instanceMethod yX1_oldestGoes, Cond.selects RX1 yX1_oldestGoes yX1_oldestGoes, Cond.code yX1_oldestGoes cX1_oldestGoes 4 none, Cond.methodLink RX1 109 yX1_moveTarget, Cond.instanceMethod yX1_moveTarget, Cond.selects RX1 yX1_moveTarget yX1_moveTarget]
def wsX1_write_r5 : List Cond := [Cond.code yX1_moveTarget cX1_moveTarget 3 none, Cond.methodLink RX1 124 Lib.Math.min.name, Cond.static Lib.Math.min.name, Cond.initialized "java/lang/Math", Cond.code Lib.Math.min.name Lib.Math.min.code 2 (some .int), Cond.methodLink RX1 127 Lib.Math.max.name, Cond.static Lib.Math.max.name, Cond.code Lib.Math.max.name Lib.Math.max.code 2 (some .int), Cond.methodLink RX1 121 yX1_stepOf, Cond.static yX1_stepOf, Cond.code yX1_stepOf cX1_stepOf 2 (some .int), Cond.methodLink RX1 115 yX1_bringPage, Cond.instanceMethod yX1_bringPage, Cond.selects RX1 yX1_bringPage yX1_bringPage, Cond.code yX1_bringPage cX1_bringPage 2 none]
def wsX1_write : List Cond := .code yX1_write cX1_write 3 (some .boolean) :: ((wsX1_write_r1 ++ (wsX1_write_r2 ++ (wsX1_write_r3 ++ (wsX1_write_r4 ++ wsX1_write_r5)))) ++ wsX10 ++ wsX00)
def wsX1_flush : List Cond := .code yX1_flush cX1_flush 3 (some .int) :: ([.fieldLink RX1 29 "ArcCache" "dirtyPages" "[Z", .methodLink RX1 75 yX1_writeBack, .instanceMethod yX1_writeBack, .selects RX1 yX1_writeBack yX1_writeBack, .initialized RX1, .code yX1_writeBack cX1_writeBack 2 none, .fieldLink RX1 33 "ArcCache" "storeWords" "[I", .fieldLink RX1 25 "ArcCache" "pageWords" "[I"] ++ wsX10)
def wsX1_isList : List Cond := .code yX1_isList cX1_isList 1 (some .boolean) :: ([])
def wsX1_at : List Cond := .code yX1_at cX1_at 3 (some .int) :: ([.methodLink RX1 85 yX1_isList, .static yX1_isList, .initialized RX1, .code yX1_isList cX1_isList 1 (some .boolean), .methodLink RX1 78 yX1_listNumbered, .instanceMethod yX1_listNumbered, .selects RX1 yX1_listNumbered yX1_listNumbered, .code yX1_listNumbered cX1_listNumbered 2 (some (.object "ArcCache$AddressList")), .fieldLink RX1 10 "ArcCache" "cameOnce" "LArcCache$AddressList;", .fieldLink RX1 16 "ArcCache" "cameAgain" "LArcCache$AddressList;", .fieldLink RX1 19 "ArcCache" "wentOnce" "LArcCache$AddressList;", .fieldLink RX1 22 "ArcCache" "wentAgain" "LArcCache$AddressList;", .methodLink RX1 88 yX0_fromNewest, .instanceMethod yX0_fromNewest, .selects RX0 yX0_fromNewest yX0_fromNewest, .initialized RX0, .code yX0_fromNewest cX0_fromNewest 2 (some .int), .fieldLink RX0 15 "ArcCache$AddressList" "count" "I", .fieldLink RX0 9 "ArcCache$AddressList" "oldestFirst" "[I"] ++ wsX10 ++ wsX00)
def wsX1_length : List Cond := .code yX1_length cX1_length 2 (some .int) :: ([.methodLink RX1 85 yX1_isList, .static yX1_isList, .initialized RX1, .code yX1_isList cX1_isList 1 (some .boolean), .methodLink RX1 78 yX1_listNumbered, .instanceMethod yX1_listNumbered, .selects RX1 yX1_listNumbered yX1_listNumbered, .code yX1_listNumbered cX1_listNumbered 2 (some (.object "ArcCache$AddressList")), .fieldLink RX1 10 "ArcCache" "cameOnce" "LArcCache$AddressList;", .fieldLink RX1 16 "ArcCache" "cameAgain" "LArcCache$AddressList;", .fieldLink RX1 19 "ArcCache" "wentOnce" "LArcCache$AddressList;", .fieldLink RX1 22 "ArcCache" "wentAgain" "LArcCache$AddressList;", .methodLink RX1 92 yX0_size, .instanceMethod yX0_size, .selects RX0 yX0_size yX0_size, .initialized RX0, .code yX0_size cX0_size 1 (some .int), .fieldLink RX0 15 "ArcCache$AddressList" "count" "I"] ++ wsX10 ++ wsX00)
def wsX1_target : List Cond := .code yX1_target cX1_target 1 (some .int) :: ([.fieldLink RX1 55 "ArcCache" "targetCount" "I"] ++ wsX10)
def wsX1_hits : List Cond := .code yX1_hits cX1_hits 1 (some .int) :: ([.fieldLink RX1 58 "ArcCache" "hitCount" "I"] ++ wsX10)
def wsX1_misses : List Cond := .code yX1_misses cX1_misses 1 (some .int) :: ([.fieldLink RX1 61 "ArcCache" "missCount" "I"] ++ wsX10)
def wsX1_store : List Cond := .code yX1_store cX1_store 2 (some .int) :: ([.fieldLink RX1 33 "ArcCache" "storeWords" "[I", .methodLink RX1 67 yX1_isAddress, .static yX1_isAddress, .initialized RX1, .code yX1_isAddress cX1_isAddress 1 (some .boolean)] ++ wsX10)
def wsX1_isDirty : List Cond := .code yX1_isDirty cX1_isDirty 2 (some .boolean) :: ([.fieldLink RX1 29 "ArcCache" "dirtyPages" "[Z", .methodLink RX1 67 yX1_isAddress, .static yX1_isAddress, .initialized RX1, .code yX1_isAddress cX1_isAddress 1 (some .boolean)] ++ wsX10)
def wsX1_gone : List Cond := .code yX1_gone cX1_gone 1 (some .int) :: ([.fieldLink RX1 64 "ArcCache" "goneCount" "I"] ++ wsX10)
def wsX2_init : List Cond := .code yX2_init cX2_init 3 none :: ([.methodLink RX2 1 objectInit, .instanceMethod objectInit, .code objectInit ⟨#[0xb1]⟩ 1 none, .arrayClass .int, .fieldLink RX2 7 "ArcCacheModel" "lists" "[I", .fieldLink RX2 13 "ArcCacheModel" "many" "[I", .fieldLink RX2 16 "ArcCacheModel" "store" "[I", .fieldLink RX2 19 "ArcCacheModel" "words" "[I", .arrayClass .boolean, .fieldLink RX2 22 "ArcCacheModel" "dirty" "[Z", .fieldLink RX2 26 "ArcCacheModel" "pages" "I"] ++ wsX20)
def wsX2_init_ : List Cond := .code yX2_init_ cX2_init_ 2 none :: ([.fieldLink RX2 13 "ArcCacheModel" "many" "[I", .fieldLink RX2 16 "ArcCacheModel" "store" "[I", .fieldLink RX2 19 "ArcCacheModel" "words" "[I", .fieldLink RX2 22 "ArcCacheModel" "dirty" "[Z", .fieldLink RX2 30 "ArcCacheModel" "target" "I", .fieldLink RX2 33 "ArcCacheModel" "hits" "I", .fieldLink RX2 36 "ArcCacheModel" "misses" "I", .fieldLink RX2 39 "ArcCacheModel" "gone" "I"] ++ wsX20)
def wsX2_isAddress : List Cond := .code yX2_isAddress cX2_isAddress 1 (some .boolean) :: ([])
def wsX2_whichList : List Cond := .code yX2_whichList cX2_whichList 5 (some .int) :: ([.fieldLink RX2 13 "ArcCacheModel" "many" "[I", .fieldLink RX2 7 "ArcCacheModel" "lists" "[I"] ++ wsX20)
def wsX2_leave : List Cond := .code yX2_leave cX2_leave 4 none :: ([.fieldLink RX2 7 "ArcCacheModel" "lists" "[I", .fieldLink RX2 13 "ArcCacheModel" "many" "[I", .methodLink RX2 42 yX2_whichList, .instanceMethod yX2_whichList, .selects RX2 yX2_whichList yX2_whichList, .initialized RX2, .code yX2_whichList cX2_whichList 5 (some .int)] ++ wsX20)
def wsX2_come : List Cond := .code yX2_come cX2_come 4 none :: ([.fieldLink RX2 13 "ArcCacheModel" "many" "[I", .fieldLink RX2 7 "ArcCacheModel" "lists" "[I", .methodLink RX2 46 yX2_leave, .instanceMethod yX2_leave, .selects RX2 yX2_leave yX2_leave, .initialized RX2, .code yX2_leave cX2_leave 4 none, .methodLink RX2 42 yX2_whichList, .instanceMethod yX2_whichList, .selects RX2 yX2_whichList yX2_whichList, .code yX2_whichList cX2_whichList 5 (some .int)] ++ wsX20)
def wsX2_old : List Cond := .code yX2_old cX2_old 2 (some .int) :: ([.fieldLink RX2 7 "ArcCacheModel" "lists" "[I", .fieldLink RX2 13 "ArcCacheModel" "many" "[I"] ++ wsX20)
def wsX2_clean : List Cond := .code yX2_clean cX2_clean 2 none :: ([.fieldLink RX2 16 "ArcCacheModel" "store" "[I", .fieldLink RX2 22 "ArcCacheModel" "dirty" "[Z", .fieldLink RX2 19 "ArcCacheModel" "words" "[I"] ++ wsX20)
def wsX2_go : List Cond := .code yX2_go cX2_go 2 none :: ([.fieldLink RX2 39 "ArcCacheModel" "gone" "I", .methodLink RX2 50 yX2_clean, .instanceMethod yX2_clean, .selects RX2 yX2_clean yX2_clean, .initialized RX2, .code yX2_clean cX2_clean 2 none, .fieldLink RX2 16 "ArcCacheModel" "store" "[I", .fieldLink RX2 22 "ArcCacheModel" "dirty" "[Z", .fieldLink RX2 19 "ArcCacheModel" "words" "[I"] ++ wsX20)
def wsX2_makeRoom_r1 : List Cond := [Cond.fieldLink RX2 13 "ArcCacheModel" "many" "[I", Cond.fieldLink RX2 30 "ArcCacheModel" "target" "I", Cond.methodLink RX2 42 yX2_whichList, Cond.instanceMethod yX2_whichList, Cond.selects RX2 yX2_whichList yX2_whichList, Cond.initialized RX2, Cond.code yX2_whichList cX2_whichList 5 (some .int), Cond.fieldLink RX2 7 "ArcCacheModel" "lists" "[I", Cond.methodLink RX2 53 yX2_old, Cond.instanceMethod yX2_old, Cond.selects RX2 yX2_old yX2_old, Cond.code yX2_old cX2_old 2 (some .int), Cond.methodLink RX2 56 yX2_go, Cond.instanceMethod yX2_go, Cond.selects RX2 yX2_go yX2_go, Cond.code yX2_go cX2_go 2 none, Cond.fieldLink RX2 39 "ArcCacheModel" "gone" "I", Cond.methodLink RX2 50 yX2_clean, Cond.instanceMethod yX2_clean, Cond.selects RX2 yX2_clean yX2_clean, Cond.code yX2_clean cX2_clean 2 none, Cond.fieldLink RX2 16 "ArcCacheModel" "store" "[I", Cond.fieldLink RX2 22 "ArcCacheModel" "dirty" "[Z", Cond.fieldLink RX2 19 "ArcCacheModel" "words" "[I"]
def wsX2_makeRoom_r2 : List Cond := [Cond.methodLink RX2 59 yX2_come, Cond.instanceMethod yX2_come, Cond.selects RX2 yX2_come yX2_come, Cond.code yX2_come cX2_come 4 none, Cond.methodLink RX2 46 yX2_leave, Cond.instanceMethod yX2_leave, Cond.selects RX2 yX2_leave yX2_leave, Cond.code yX2_leave cX2_leave 4 none]
def wsX2_makeRoom : List Cond := .code yX2_makeRoom cX2_makeRoom 5 none :: ((wsX2_makeRoom_r1 ++ wsX2_makeRoom_r2) ++ wsX20)
def wsX2_comeNew_r1 : List Cond := [Cond.fieldLink RX2 13 "ArcCacheModel" "many" "[I", Cond.fieldLink RX2 26 "ArcCacheModel" "pages" "I", Cond.methodLink RX2 53 yX2_old, Cond.instanceMethod yX2_old, Cond.selects RX2 yX2_old yX2_old, Cond.initialized RX2, Cond.code yX2_old cX2_old 2 (some .int), Cond.fieldLink RX2 7 "ArcCacheModel" "lists" "[I", Cond.methodLink RX2 46 yX2_leave, Cond.instanceMethod yX2_leave, Cond.selects RX2 yX2_leave yX2_leave, Cond.code yX2_leave cX2_leave 4 none, Cond.methodLink RX2 42 yX2_whichList, Cond.instanceMethod yX2_whichList, Cond.selects RX2 yX2_whichList yX2_whichList, Cond.code yX2_whichList cX2_whichList 5 (some .int), Cond.methodLink RX2 63 yX2_makeRoom, Cond.instanceMethod yX2_makeRoom, Cond.selects RX2 yX2_makeRoom yX2_makeRoom, Cond.code yX2_makeRoom cX2_makeRoom 5 none, Cond.fieldLink RX2 30 "ArcCacheModel" "target" "I", Cond.methodLink RX2 56 yX2_go, Cond.instanceMethod yX2_go, Cond.selects RX2 yX2_go yX2_go]
def wsX2_comeNew_r2 : List Cond := [Cond.code yX2_go cX2_go 2 none, Cond.fieldLink RX2 39 "ArcCacheModel" "gone" "I", Cond.methodLink RX2 50 yX2_clean, Cond.instanceMethod yX2_clean, Cond.selects RX2 yX2_clean yX2_clean, Cond.code yX2_clean cX2_clean 2 none, Cond.fieldLink RX2 16 "ArcCacheModel" "store" "[I", Cond.fieldLink RX2 22 "ArcCacheModel" "dirty" "[Z", Cond.fieldLink RX2 19 "ArcCacheModel" "words" "[I", Cond.methodLink RX2 59 yX2_come, Cond.instanceMethod yX2_come, Cond.selects RX2 yX2_come yX2_come, Cond.code yX2_come cX2_come 4 none]
def wsX2_comeNew : List Cond := .code yX2_comeNew cX2_comeNew 3 none :: ((wsX2_comeNew_r1 ++ wsX2_comeNew_r2) ++ wsX20)
def wsX2_request_r1 : List Cond := [Cond.fieldLink RX2 33 "ArcCacheModel" "hits" "I", Cond.fieldLink RX2 36 "ArcCacheModel" "misses" "I", Cond.fieldLink RX2 13 "ArcCacheModel" "many" "[I", Cond.fieldLink RX2 30 "ArcCacheModel" "target" "I", Cond.fieldLink RX2 26 "ArcCacheModel" "pages" "I", Cond.fieldLink RX2 19 "ArcCacheModel" "words" "[I", Cond.fieldLink RX2 16 "ArcCacheModel" "store" "[I", Cond.fieldLink RX2 22 "ArcCacheModel" "dirty" "[Z", Cond.methodLink RX2 42 yX2_whichList, Cond.instanceMethod yX2_whichList, Cond.selects RX2 yX2_whichList yX2_whichList, Cond.initialized RX2, Cond.code yX2_whichList cX2_whichList 5 (some .int), Cond.fieldLink RX2 7 "ArcCacheModel" "lists" "[I", Cond.methodLink RX2 59 yX2_come, Cond.instanceMethod yX2_come, Cond.selects RX2 yX2_come yX2_come, Cond.code yX2_come cX2_come 4 none, Cond.methodLink RX2 46 yX2_leave, Cond.instanceMethod yX2_leave, Cond.selects RX2 yX2_leave yX2_leave, Cond.code yX2_leave cX2_leave 4 none, Cond.methodLink RX2 66 yX2_comeNew, Cond.instanceMethod yX2_comeNew]
def wsX2_request_r2 : List Cond := [Cond.selects RX2 yX2_comeNew yX2_comeNew, Cond.code yX2_comeNew cX2_comeNew 3 none, Cond.methodLink RX2 53 yX2_old, Cond.instanceMethod yX2_old, Cond.selects RX2 yX2_old yX2_old, Cond.code yX2_old cX2_old 2 (some .int), Cond.methodLink RX2 63 yX2_makeRoom, Cond.instanceMethod yX2_makeRoom, Cond.selects RX2 yX2_makeRoom yX2_makeRoom, Cond.code yX2_makeRoom cX2_makeRoom 5 none, Cond.methodLink RX2 56 yX2_go, Cond.instanceMethod yX2_go, Cond.selects RX2 yX2_go yX2_go, Cond.code yX2_go cX2_go 2 none, Cond.fieldLink RX2 39 "ArcCacheModel" "gone" "I", Cond.methodLink RX2 50 yX2_clean, Cond.instanceMethod yX2_clean, Cond.selects RX2 yX2_clean yX2_clean, Cond.code yX2_clean cX2_clean 2 none]
def wsX2_request : List Cond := .code yX2_request cX2_request 4 none :: ((wsX2_request_r1 ++ wsX2_request_r2) ++ wsX20)
def wsX2_read_r1 : List Cond := [Cond.fieldLink RX2 19 "ArcCacheModel" "words" "[I", Cond.methodLink RX2 69 yX2_isAddress, Cond.static yX2_isAddress, Cond.initialized RX2, Cond.code yX2_isAddress cX2_isAddress 1 (some .boolean), Cond.methodLink RX2 73 yX2_request, Cond.instanceMethod yX2_request, Cond.selects RX2 yX2_request yX2_request, Cond.code yX2_request cX2_request 4 none, Cond.fieldLink RX2 33 "ArcCacheModel" "hits" "I", Cond.fieldLink RX2 36 "ArcCacheModel" "misses" "I", Cond.fieldLink RX2 13 "ArcCacheModel" "many" "[I", Cond.fieldLink RX2 30 "ArcCacheModel" "target" "I", Cond.fieldLink RX2 26 "ArcCacheModel" "pages" "I", Cond.fieldLink RX2 16 "ArcCacheModel" "store" "[I", Cond.fieldLink RX2 22 "ArcCacheModel" "dirty" "[Z", Cond.methodLink RX2 42 yX2_whichList, Cond.instanceMethod yX2_whichList, Cond.selects RX2 yX2_whichList yX2_whichList, Cond.code yX2_whichList cX2_whichList 5 (some .int), Cond.fieldLink RX2 7 "ArcCacheModel" "lists" "[I", Cond.methodLink RX2 59 yX2_come, Cond.instanceMethod yX2_come, Cond.selects RX2 yX2_come yX2_come]
def wsX2_read_r2 : List Cond := [Cond.code yX2_come cX2_come 4 none, Cond.methodLink RX2 46 yX2_leave, Cond.instanceMethod yX2_leave, Cond.selects RX2 yX2_leave yX2_leave, Cond.code yX2_leave cX2_leave 4 none, Cond.methodLink RX2 66 yX2_comeNew, Cond.instanceMethod yX2_comeNew, Cond.selects RX2 yX2_comeNew yX2_comeNew, Cond.code yX2_comeNew cX2_comeNew 3 none, Cond.methodLink RX2 53 yX2_old, Cond.instanceMethod yX2_old, Cond.selects RX2 yX2_old yX2_old, Cond.code yX2_old cX2_old 2 (some .int), Cond.methodLink RX2 63 yX2_makeRoom, Cond.instanceMethod yX2_makeRoom, Cond.selects RX2 yX2_makeRoom yX2_makeRoom, Cond.code yX2_makeRoom cX2_makeRoom 5 none, Cond.methodLink RX2 56 yX2_go, Cond.instanceMethod yX2_go, Cond.selects RX2 yX2_go yX2_go, Cond.code yX2_go cX2_go 2 none, Cond.fieldLink RX2 39 "ArcCacheModel" "gone" "I", Cond.methodLink RX2 50 yX2_clean, Cond.instanceMethod yX2_clean]
def wsX2_read_r3 : List Cond := [Cond.selects RX2 yX2_clean yX2_clean, Cond.code yX2_clean cX2_clean 2 none]
def wsX2_read : List Cond := .code yX2_read cX2_read 2 (some .int) :: ((wsX2_read_r1 ++ (wsX2_read_r2 ++ wsX2_read_r3)) ++ wsX20)
def wsX2_write_r1 : List Cond := [Cond.fieldLink RX2 19 "ArcCacheModel" "words" "[I", Cond.fieldLink RX2 22 "ArcCacheModel" "dirty" "[Z", Cond.methodLink RX2 69 yX2_isAddress, Cond.static yX2_isAddress, Cond.initialized RX2, Cond.code yX2_isAddress cX2_isAddress 1 (some .boolean), Cond.methodLink RX2 73 yX2_request, Cond.instanceMethod yX2_request, Cond.selects RX2 yX2_request yX2_request, Cond.code yX2_request cX2_request 4 none, Cond.fieldLink RX2 33 "ArcCacheModel" "hits" "I", Cond.fieldLink RX2 36 "ArcCacheModel" "misses" "I", Cond.fieldLink RX2 13 "ArcCacheModel" "many" "[I", Cond.fieldLink RX2 30 "ArcCacheModel" "target" "I", Cond.fieldLink RX2 26 "ArcCacheModel" "pages" "I", Cond.fieldLink RX2 16 "ArcCacheModel" "store" "[I", Cond.methodLink RX2 42 yX2_whichList, Cond.instanceMethod yX2_whichList, Cond.selects RX2 yX2_whichList yX2_whichList, Cond.code yX2_whichList cX2_whichList 5 (some .int), Cond.fieldLink RX2 7 "ArcCacheModel" "lists" "[I", Cond.methodLink RX2 59 yX2_come, Cond.instanceMethod yX2_come, Cond.selects RX2 yX2_come yX2_come]
def wsX2_write_r2 : List Cond := [Cond.code yX2_come cX2_come 4 none, Cond.methodLink RX2 46 yX2_leave, Cond.instanceMethod yX2_leave, Cond.selects RX2 yX2_leave yX2_leave, Cond.code yX2_leave cX2_leave 4 none, Cond.methodLink RX2 66 yX2_comeNew, Cond.instanceMethod yX2_comeNew, Cond.selects RX2 yX2_comeNew yX2_comeNew, Cond.code yX2_comeNew cX2_comeNew 3 none, Cond.methodLink RX2 53 yX2_old, Cond.instanceMethod yX2_old, Cond.selects RX2 yX2_old yX2_old, Cond.code yX2_old cX2_old 2 (some .int), Cond.methodLink RX2 63 yX2_makeRoom, Cond.instanceMethod yX2_makeRoom, Cond.selects RX2 yX2_makeRoom yX2_makeRoom, Cond.code yX2_makeRoom cX2_makeRoom 5 none, Cond.methodLink RX2 56 yX2_go, Cond.instanceMethod yX2_go, Cond.selects RX2 yX2_go yX2_go, Cond.code yX2_go cX2_go 2 none, Cond.fieldLink RX2 39 "ArcCacheModel" "gone" "I", Cond.methodLink RX2 50 yX2_clean, Cond.instanceMethod yX2_clean]
def wsX2_write_r3 : List Cond := [Cond.selects RX2 yX2_clean yX2_clean, Cond.code yX2_clean cX2_clean 2 none]
def wsX2_write : List Cond := .code yX2_write cX2_write 3 (some .boolean) :: ((wsX2_write_r1 ++ (wsX2_write_r2 ++ wsX2_write_r3)) ++ wsX20)
def wsX2_flush : List Cond := .code yX2_flush cX2_flush 3 (some .int) :: ([.fieldLink RX2 22 "ArcCacheModel" "dirty" "[Z", .methodLink RX2 50 yX2_clean, .instanceMethod yX2_clean, .selects RX2 yX2_clean yX2_clean, .initialized RX2, .code yX2_clean cX2_clean 2 none, .fieldLink RX2 16 "ArcCacheModel" "store" "[I", .fieldLink RX2 19 "ArcCacheModel" "words" "[I"] ++ wsX20)
def wsX2_at : List Cond := .code yX2_at cX2_at 3 (some .int) :: ([.fieldLink RX2 13 "ArcCacheModel" "many" "[I", .fieldLink RX2 7 "ArcCacheModel" "lists" "[I"] ++ wsX20)
def wsX2_length : List Cond := .code yX2_length cX2_length 2 (some .int) :: ([.fieldLink RX2 13 "ArcCacheModel" "many" "[I"] ++ wsX20)
def wsX2_target : List Cond := .code yX2_target cX2_target 1 (some .int) :: ([.fieldLink RX2 30 "ArcCacheModel" "target" "I"] ++ wsX20)
def wsX2_hits : List Cond := .code yX2_hits cX2_hits 1 (some .int) :: ([.fieldLink RX2 33 "ArcCacheModel" "hits" "I"] ++ wsX20)
def wsX2_misses : List Cond := .code yX2_misses cX2_misses 1 (some .int) :: ([.fieldLink RX2 36 "ArcCacheModel" "misses" "I"] ++ wsX20)
def wsX2_store : List Cond := .code yX2_store cX2_store 2 (some .int) :: ([.fieldLink RX2 16 "ArcCacheModel" "store" "[I", .methodLink RX2 69 yX2_isAddress, .static yX2_isAddress, .initialized RX2, .code yX2_isAddress cX2_isAddress 1 (some .boolean)] ++ wsX20)
def wsX2_isDirty : List Cond := .code yX2_isDirty cX2_isDirty 2 (some .boolean) :: ([.fieldLink RX2 22 "ArcCacheModel" "dirty" "[Z", .methodLink RX2 69 yX2_isAddress, .static yX2_isAddress, .initialized RX2, .code yX2_isAddress cX2_isAddress 1 (some .boolean)] ++ wsX20)
def wsX2_gone : List Cond := .code yX2_gone cX2_gone 1 (some .int) :: ([.fieldLink RX2 39 "ArcCacheModel" "gone" "I"] ++ wsX20)
def wsJ9_max_7cf53 : List Cond := .code yJ9_max_7cf53 cJ9_max_7cf53 2 (some .int) :: ([])
def wsJ9_min_7cf53 : List Cond := .code yJ9_min_7cf53 cJ9_min_7cf53 2 (some .int) :: ([])
def wsL_cell : List Cond := .code yL_cell cL_cell 2 (some .int) :: ([])
def wsL_law_r1 : List Cond := [Cond.classLink RL 7 RX1, Cond.instantiable RX1 12, Cond.initialized RX1, Cond.classLink RL 18 RX2, Cond.instantiable RX2 10, Cond.initialized RX2, Cond.methodLink RL 9 yL_cell, Cond.static yL_cell, Cond.initialized RL, Cond.code yL_cell cL_cell 2 (some .int), Cond.methodLink RL 15 yX1_init, Cond.instanceMethod yX1_init, Cond.code yX1_init cX1_init 2 none, Cond.methodLink RX1 1 objectInit, Cond.instanceMethod objectInit, Cond.code objectInit ⟨#[0xb1]⟩ 1 none, Cond.classLink RX1 7 RX0, Cond.instantiable RX0 2, Cond.initialized RX0, Cond.fieldLink RX1 10 "ArcCache" "cameOnce" "LArcCache$AddressList;", Cond.fieldLink RX1 16 "ArcCache" "cameAgain" "LArcCache$AddressList;", Cond.fieldLink RX1 19 "ArcCache" "wentOnce" "LArcCache$AddressList;", Cond.fieldLink RX1 22 "ArcCache" "wentAgain" "LArcCache$AddressList;", Cond.arrayClass .int]
def wsL_law_r2 : List Cond := [Cond.fieldLink RX1 25 "ArcCache" "pageWords" "[I", Cond.arrayClass .boolean, Cond.fieldLink RX1 29 "ArcCache" "dirtyPages" "[Z", Cond.fieldLink RX1 33 "ArcCache" "storeWords" "[I", Cond.fieldLink RX1 42 "ArcCache" "pages" "I", Cond.instanceMethod yX0_init, Cond.code yX0_init cX0_init 1 none, Cond.methodLink RX0 3 objectInit, Cond.fieldLink RX0 9 "ArcCache$AddressList" "oldestFirst" "[I", Cond.methodLink RX1 36 yJ9_floorMod_7cf53, Cond.static yJ9_floorMod_7cf53, Cond.initialized RJ9, Cond.code yJ9_floorMod_7cf53 cJ9_floorMod_7cf53 3 (some .int), Cond.methodLink RL 20 yX2_init, Cond.instanceMethod yX2_init, Cond.code yX2_init cX2_init 3 none, Cond.methodLink RX2 1 objectInit, Cond.fieldLink RX2 7 "ArcCacheModel" "lists" "[I", Cond.fieldLink RX2 13 "ArcCacheModel" "many" "[I", Cond.fieldLink RX2 16 "ArcCacheModel" "store" "[I", Cond.fieldLink RX2 19 "ArcCacheModel" "words" "[I", Cond.fieldLink RX2 22 "ArcCacheModel" "dirty" "[Z", Cond.fieldLink RX2 26 "ArcCacheModel" "pages" "I", Cond.methodLink RL 21 yX1_init_]
def wsL_law_r3 : List Cond := [Cond.instanceMethod yX1_init_, Cond.selects RX1 yX1_init_ yX1_init_, Cond.code yX1_init_ cX1_init_ 2 none, Cond.fieldLink RX1 55 "ArcCache" "targetCount" "I", Cond.fieldLink RX1 58 "ArcCache" "hitCount" "I", Cond.fieldLink RX1 61 "ArcCache" "missCount" "I", Cond.fieldLink RX1 64 "ArcCache" "goneCount" "I", Cond.methodLink RX1 46 yX0_empty, Cond.instanceMethod yX0_empty, Cond.selects RX0 yX0_empty yX0_empty, Cond.code yX0_empty cX0_empty 1 none, Cond.fieldLink RX0 15 "ArcCache$AddressList" "count" "I", Cond.methodLink RX1 49 yJ7_fill_53178, Cond.static yJ7_fill_53178, Cond.initialized RJ7, Cond.code yJ7_fill_53178 cJ7_fill_53178 4 none, Cond.methodLink RL 24 yX2_init_, Cond.instanceMethod yX2_init_, Cond.selects RX2 yX2_init_ yX2_init_, Cond.code yX2_init_ cX2_init_ 2 none, Cond.fieldLink RX2 30 "ArcCacheModel" "target" "I", Cond.fieldLink RX2 33 "ArcCacheModel" "hits" "I", Cond.fieldLink RX2 36 "ArcCacheModel" "misses" "I", Cond.fieldLink RX2 39 "ArcCacheModel" "gone" "I"]
def wsL_law_r4 : List Cond := [Cond.methodLink RL 25 yX1_read, Cond.instanceMethod yX1_read, Cond.selects RX1 yX1_read yX1_read, Cond.code yX1_read cX1_read 2 (some .int), Cond.methodLink RX1 67 yX1_isAddress, Cond.static yX1_isAddress, Cond.code yX1_isAddress cX1_isAddress 1 (some .boolean), Cond.methodLink RX1 71 yX1_request, Cond.instanceMethod yX1_request, Cond.selects RX1 yX1_request yX1_request, Cond.code yX1_request cX1_request 3 none, Cond.methodLink RX1 96 yX1_whichList, Cond.instanceMethod yX1_whichList, Cond.selects RX1 yX1_whichList yX1_whichList, Cond.code yX1_whichList cX1_whichList 3 (some .int), Cond.methodLink RX1 78 yX1_listNumbered, Cond.instanceMethod yX1_listNumbered, Cond.selects RX1 yX1_listNumbered yX1_listNumbered, Cond.code yX1_listNumbered cX1_listNumbered 2 (some (.object "ArcCache$AddressList")), Cond.methodLink RX1 82 yX0_has, Cond.instanceMethod yX0_has, Cond.selects RX0 yX0_has yX0_has, Cond.code yX0_has cX0_has 2 (some .boolean), Cond.methodLink RX0 19 yX0_placeOf]
def wsL_law_r5 : List Cond := [Cond.instanceMethod yX0_placeOf, Cond.selects RX0 yX0_placeOf yX0_placeOf, Cond.code yX0_placeOf cX0_placeOf 3 (some .int), Cond.methodLink RX1 99 yX1_moveToCameAgain, Cond.instanceMethod yX1_moveToCameAgain, Cond.selects RX1 yX1_moveToCameAgain yX1_moveToCameAgain, Cond.code yX1_moveToCameAgain cX1_moveToCameAgain 3 none, Cond.methodLink RX1 118 yX0_remove, Cond.instanceMethod yX0_remove, Cond.selects RX0 yX0_remove yX0_remove, Cond.code yX0_remove cX0_remove 3 none, Cond.methodLink RX0 38 arraycopyName, Cond.native arraycopyName, Cond.static arraycopyName, Cond.initialized "java/lang/System", Cond.methodLink RX1 106 yX0_addNewest, Cond.instanceMethod yX0_addNewest, Cond.selects RX0 yX0_addNewest yX0_addNewest, Cond.code yX0_addNewest cX0_addNewest 2 none, Cond.methodLink RX1 103 yX1_makeRoomForUnknown, Cond.instanceMethod yX1_makeRoomForUnknown, Cond.selects RX1 yX1_makeRoomForUnknown yX1_makeRoomForUnknown, Cond.code yX1_makeRoomForUnknown cX1_makeRoomForUnknown 4 none, Cond.methodLink RX1 92 yX0_size]
def wsL_law_r6 : List Cond := [Cond.instanceMethod yX0_size, Cond.selects RX0 yX0_size yX0_size, Cond.code yX0_size cX0_size 1 (some .int), Cond.methodLink RX1 134 yX0_oldest, Cond.instanceMethod yX0_oldest, Cond.selects RX0 yX0_oldest yX0_oldest, Cond.code yX0_oldest cX0_oldest 1 (some .int), Cond.methodLink RX0 27 yX0_fromNewest, Cond.instanceMethod yX0_fromNewest, Cond.selects RX0 yX0_fromNewest yX0_fromNewest, Cond.code yX0_fromNewest cX0_fromNewest 2 (some .int), Cond.methodLink RX1 137 yX1_pageGoes, Cond.instanceMethod yX1_pageGoes, Cond.selects RX1 yX1_pageGoes yX1_pageGoes, Cond.code yX1_pageGoes cX1_pageGoes 2 none, Cond.methodLink RX1 75 yX1_writeBack, Cond.instanceMethod yX1_writeBack, Cond.selects RX1 yX1_writeBack yX1_writeBack, Cond.code yX1_writeBack cX1_writeBack 2 none, Cond.methodLink RX1 140 yX0_dropOldest, Cond.instanceMethod yX0_dropOldest, Cond.selects RX0 yX0_dropOldest yX0_dropOldest, Cond.code yX0_dropOldest cX0_dropOldest 1 none, Cond.methodLink RX0 30 yX0_oldest]
def wsL_law_r7 : List Cond := [Cond.methodLink RX0 34 yX0_remove, Cond.methodLink RX1 112 yX1_makeRoom, Cond.instanceMethod yX1_makeRoom, Cond.selects RX1 yX1_makeRoom yX1_makeRoom, Cond.code yX1_makeRoom cX1_makeRoom 4 none, Cond.methodLink RX1 130 yX1_oldestGoes, Cond.instanceMethod yX1_oldestGoes, Cond.selects RX1 yX1_oldestGoes yX1_oldestGoes, Cond.code yX1_oldestGoes cX1_oldestGoes 4 none, Cond.methodLink RX1 109 yX1_moveTarget, Cond.instanceMethod yX1_moveTarget, Cond.selects RX1 yX1_moveTarget yX1_moveTarget, Cond.code yX1_moveTarget cX1_moveTarget 3 none, Cond.methodLink RX1 124 Lib.Math.min.name, Cond.static Lib.Math.min.name, Cond.initialized "java/lang/Math", Cond.code Lib.Math.min.name Lib.Math.min.code 2 (some .int), Cond.methodLink RX1 127 Lib.Math.max.name, Cond.static Lib.Math.max.name, Cond.code Lib.Math.max.name Lib.Math.max.code 2 (some .int), Cond.methodLink RX1 121 yX1_stepOf, Cond.static yX1_stepOf, Cond.code yX1_stepOf cX1_stepOf 2 (some .int), Cond.methodLink RX1 115 yX1_bringPage]
def wsL_law_r8 : List Cond := [Cond.instanceMethod yX1_bringPage, Cond.selects RX1 yX1_bringPage yX1_bringPage, Cond.code yX1_bringPage cX1_bringPage 2 none, Cond.methodLink RL 29 yX2_read, Cond.instanceMethod yX2_read, Cond.selects RX2 yX2_read yX2_read, Cond.code yX2_read cX2_read 2 (some .int), Cond.methodLink RX2 69 yX2_isAddress, Cond.static yX2_isAddress, Cond.code yX2_isAddress cX2_isAddress 1 (some .boolean), Cond.methodLink RX2 73 yX2_request, Cond.instanceMethod yX2_request, Cond.selects RX2 yX2_request yX2_request, Cond.code yX2_request cX2_request 4 none, Cond.methodLink RX2 42 yX2_whichList, Cond.instanceMethod yX2_whichList, Cond.selects RX2 yX2_whichList yX2_whichList, Cond.code yX2_whichList cX2_whichList 5 (some .int), Cond.methodLink RX2 59 yX2_come, Cond.instanceMethod yX2_come, Cond.selects RX2 yX2_come yX2_come, Cond.code yX2_come cX2_come 4 none, Cond.methodLink RX2 46 yX2_leave, Cond.instanceMethod yX2_leave]
def wsL_law_r9 : List Cond := [Cond.selects RX2 yX2_leave yX2_leave, Cond.code yX2_leave cX2_leave 4 none, Cond.methodLink RX2 66 yX2_comeNew, Cond.instanceMethod yX2_comeNew, Cond.selects RX2 yX2_comeNew yX2_comeNew, Cond.code yX2_comeNew cX2_comeNew 3 none, Cond.methodLink RX2 53 yX2_old, Cond.instanceMethod yX2_old, Cond.selects RX2 yX2_old yX2_old, Cond.code yX2_old cX2_old 2 (some .int), Cond.methodLink RX2 63 yX2_makeRoom, Cond.instanceMethod yX2_makeRoom, Cond.selects RX2 yX2_makeRoom yX2_makeRoom, Cond.code yX2_makeRoom cX2_makeRoom 5 none, Cond.methodLink RX2 56 yX2_go, Cond.instanceMethod yX2_go, Cond.selects RX2 yX2_go yX2_go, Cond.code yX2_go cX2_go 2 none, Cond.methodLink RX2 50 yX2_clean, Cond.instanceMethod yX2_clean, Cond.selects RX2 yX2_clean yX2_clean, Cond.code yX2_clean cX2_clean 2 none, Cond.methodLink RL 30 yX1_write, Cond.instanceMethod yX1_write]
def wsL_law_r10 : List Cond := [Cond.selects RX1 yX1_write yX1_write, Cond.code yX1_write cX1_write 3 (some .boolean), Cond.methodLink RL 34 yX2_write, Cond.instanceMethod yX2_write, Cond.selects RX2 yX2_write yX2_write, Cond.code yX2_write cX2_write 3 (some .boolean), Cond.methodLink RL 35 yX1_flush, Cond.instanceMethod yX1_flush, Cond.selects RX1 yX1_flush yX1_flush, Cond.code yX1_flush cX1_flush 3 (some .int), Cond.methodLink RL 39 yX2_flush, Cond.instanceMethod yX2_flush, Cond.selects RX2 yX2_flush yX2_flush, Cond.code yX2_flush cX2_flush 3 (some .int), Cond.methodLink RL 40 yX1_whichList, Cond.methodLink RL 43 yX2_whichList, Cond.methodLink RL 44 yX1_at, Cond.instanceMethod yX1_at, Cond.selects RX1 yX1_at yX1_at, Cond.code yX1_at cX1_at 3 (some .int), Cond.methodLink RX1 85 yX1_isList, Cond.static yX1_isList, Cond.code yX1_isList cX1_isList 1 (some .boolean), Cond.methodLink RX1 88 yX0_fromNewest]
def wsL_law_r11 : List Cond := [Cond.methodLink RL 48 yX2_at, Cond.instanceMethod yX2_at, Cond.selects RX2 yX2_at yX2_at, Cond.code yX2_at cX2_at 3 (some .int), Cond.methodLink RL 49 yX1_length, Cond.instanceMethod yX1_length, Cond.selects RX1 yX1_length yX1_length, Cond.code yX1_length cX1_length 2 (some .int), Cond.methodLink RL 52 yX2_length, Cond.instanceMethod yX2_length, Cond.selects RX2 yX2_length yX2_length, Cond.code yX2_length cX2_length 2 (some .int), Cond.methodLink RL 53 yX1_target, Cond.instanceMethod yX1_target, Cond.selects RX1 yX1_target yX1_target, Cond.code yX1_target cX1_target 1 (some .int), Cond.methodLink RL 56 yX2_target, Cond.instanceMethod yX2_target, Cond.selects RX2 yX2_target yX2_target, Cond.code yX2_target cX2_target 1 (some .int), Cond.methodLink RL 57 yX1_hits, Cond.instanceMethod yX1_hits, Cond.selects RX1 yX1_hits yX1_hits, Cond.code yX1_hits cX1_hits 1 (some .int)]
def wsL_law_r12 : List Cond := [Cond.methodLink RL 60 yX2_hits, Cond.instanceMethod yX2_hits, Cond.selects RX2 yX2_hits yX2_hits, Cond.code yX2_hits cX2_hits 1 (some .int), Cond.methodLink RL 61 yX1_misses, Cond.instanceMethod yX1_misses, Cond.selects RX1 yX1_misses yX1_misses, Cond.code yX1_misses cX1_misses 1 (some .int), Cond.methodLink RL 64 yX2_misses, Cond.instanceMethod yX2_misses, Cond.selects RX2 yX2_misses yX2_misses, Cond.code yX2_misses cX2_misses 1 (some .int), Cond.methodLink RL 65 yX1_store, Cond.instanceMethod yX1_store, Cond.selects RX1 yX1_store yX1_store, Cond.code yX1_store cX1_store 2 (some .int), Cond.methodLink RL 68 yX2_store, Cond.instanceMethod yX2_store, Cond.selects RX2 yX2_store yX2_store, Cond.code yX2_store cX2_store 2 (some .int), Cond.methodLink RL 69 yX1_isDirty, Cond.instanceMethod yX1_isDirty, Cond.selects RX1 yX1_isDirty yX1_isDirty, Cond.code yX1_isDirty cX1_isDirty 2 (some .boolean)]
def wsL_law_r13 : List Cond := [Cond.methodLink RL 73 yX2_isDirty, Cond.instanceMethod yX2_isDirty, Cond.selects RX2 yX2_isDirty yX2_isDirty, Cond.code yX2_isDirty cX2_isDirty 2 (some .boolean), Cond.methodLink RL 74 yX1_gone, Cond.instanceMethod yX1_gone, Cond.selects RX1 yX1_gone yX1_gone, Cond.code yX1_gone cX1_gone 1 (some .int), Cond.methodLink RL 77 yX2_gone, Cond.instanceMethod yX2_gone, Cond.selects RX2 yX2_gone yX2_gone, Cond.code yX2_gone cX2_gone 1 (some .int)]
def wsL_law : List Cond := (wsL_law_r1 ++ (wsL_law_r2 ++ (wsL_law_r3 ++ (wsL_law_r4 ++ (wsL_law_r5 ++ (wsL_law_r6 ++ (wsL_law_r7 ++ (wsL_law_r8 ++ (wsL_law_r9 ++ (wsL_law_r10 ++ (wsL_law_r11 ++ (wsL_law_r12 ++ wsL_law_r13)))))))))))) ++ wsX10 ++ wsX20 ++ wsX00 ++ ([] : List Cond)
set_option maxRecDepth 20000 in
theorem wsL_law_in : ∀ w ∈ wsL_law, w ∈ lw_tbl := fun w h => (goodIn_p wsL_law [245, 30, 33, 38, 50, 250, 92, 96, 99, 286, 103, 106, 110, 114, 118, 122, 126, 130, 134, 141, 146, 150, 154, 158, 162, 166, 170, 176, 180, 184, 193, 190, 187, 197, 294, 297, 301, 290, 306, 310, 314, 318, 322, 326, 330, 201, 334, 205, 338, 210, 213, 342, 218, 346, 222, 350, 226, 354, 230, 358, 234, 362, 238, 366, 242, 370] (by decide +kernel) (by decide +kernel) w h).1
theorem inlX0 : ∀ w ∈ wsX00, w ∈ wsL_law := fun _ h => List.mem_append_left _ (List.mem_append_right _ h)
theorem inX0 : ∀ w ∈ wsX00, w ∈ lw_tbl := fun w h => wsL_law_in w (inlX0 w h)
theorem inlX1 : ∀ w ∈ wsX10, w ∈ wsL_law := fun _ h => List.mem_append_left _ (List.mem_append_left _ (List.mem_append_left _ (List.mem_append_right _ h)))
theorem inX1 : ∀ w ∈ wsX10, w ∈ lw_tbl := fun w h => wsL_law_in w (inlX1 w h)
theorem inlX2 : ∀ w ∈ wsX20, w ∈ wsL_law := fun _ h => List.mem_append_left _ (List.mem_append_left _ (List.mem_append_right _ h))
theorem inX2 : ∀ w ∈ wsX20, w ∈ lw_tbl := fun w h => wsL_law_in w (inlX2 w h)
theorem inJ9 : ∀ w ∈ wsJ90, w ∈ lw_tbl := by decide +kernel
theorem inJ10 : ∀ w ∈ wsJ100, w ∈ lw_tbl := by decide +kernel
theorem inJ7 : ∀ w ∈ wsJ70, w ∈ lw_tbl := by decide +kernel
theorem dX0_init_0 : decode cX0_init 0 = .ok (.aload_n 0, 1) := by decide +kernel
theorem dX0_init_1 : decode cX0_init 1 = .ok (.invokespecial 3, 3) := by decide +kernel
theorem dX0_init_4 : decode cX0_init 4 = .ok (.aload_n 0, 1) := by decide +kernel
theorem dX0_init_5 : decode cX0_init 5 = .ok (.bipush 64, 2) := by decide +kernel
theorem dX0_init_7 : decode cX0_init 7 = .ok (.newarray .int, 2) := by decide +kernel
theorem dX0_init_9 : decode cX0_init 9 = .ok (.putfield 9, 3) := by decide +kernel
theorem dX0_init_12 : decode cX0_init 12 = .ok (.return_, 1) := by decide +kernel
theorem dX0_size_0 : decode cX0_size 0 = .ok (.aload_n 0, 1) := by decide +kernel
theorem dX0_size_1 : decode cX0_size 1 = .ok (.getfield 15, 3) := by decide +kernel
theorem dX0_size_4 : decode cX0_size 4 = .ok (.ireturn, 1) := by decide +kernel
theorem dX0_empty_0 : decode cX0_empty 0 = .ok (.aload_n 0, 1) := by decide +kernel
theorem dX0_empty_1 : decode cX0_empty 1 = .ok (.iconst 0, 1) := by decide +kernel
theorem dX0_empty_2 : decode cX0_empty 2 = .ok (.putfield 15, 3) := by decide +kernel
theorem dX0_empty_5 : decode cX0_empty 5 = .ok (.return_, 1) := by decide +kernel
set_option maxRecDepth 20000 in
theorem ggX0_has_X0_placeOf : GoodIn wsX0_has wsX0_placeOf := goodIn_r _ [5, 6, 7, 8, 9] (by decide +kernel) (by decide +kernel)
set_option maxRecDepth 20000 in
theorem gX0_has_X0_placeOf : GoodIn wsX0_has (wsV RX0 19 RX0 yX0_placeOf wsX0_placeOf) := goodIn_app (goodIn_of _ (by decide +kernel)) ggX0_has_X0_placeOf
theorem dX0_has_0 : decode cX0_has 0 = .ok (.aload_n 0, 1) := by decide +kernel
theorem dX0_has_1 : decode cX0_has 1 = .ok (.iload_n 1, 1) := by decide +kernel
theorem dX0_has_2 : decode cX0_has 2 = .ok (.invokevirtual 19, 3) := by decide +kernel
theorem dX0_has_5 : decode cX0_has 5 = .ok (.ifCond .lt 7, 3) := by decide +kernel
theorem dX0_has_8 : decode cX0_has 8 = .ok (.iconst 1, 1) := by decide +kernel
theorem dX0_has_9 : decode cX0_has 9 = .ok (.goto 4, 3) := by decide +kernel
theorem dX0_has_12 : decode cX0_has 12 = .ok (.iconst 0, 1) := by decide +kernel
theorem dX0_has_13 : decode cX0_has 13 = .ok (.ireturn, 1) := by decide +kernel
theorem dX0_fromNewest_0 : decode cX0_fromNewest 0 = .ok (.iload_n 1, 1) := by decide +kernel
theorem dX0_fromNewest_1 : decode cX0_fromNewest 1 = .ok (.ifCond .lt 27, 3) := by decide +kernel
theorem dX0_fromNewest_4 : decode cX0_fromNewest 4 = .ok (.iload_n 1, 1) := by decide +kernel
theorem dX0_fromNewest_5 : decode cX0_fromNewest 5 = .ok (.aload_n 0, 1) := by decide +kernel
theorem dX0_fromNewest_6 : decode cX0_fromNewest 6 = .ok (.getfield 15, 3) := by decide +kernel
theorem dX0_fromNewest_9 : decode cX0_fromNewest 9 = .ok (.if_icmp .ge 19, 3) := by decide +kernel
theorem dX0_fromNewest_12 : decode cX0_fromNewest 12 = .ok (.aload_n 0, 1) := by decide +kernel
theorem dX0_fromNewest_13 : decode cX0_fromNewest 13 = .ok (.getfield 9, 3) := by decide +kernel
theorem dX0_fromNewest_16 : decode cX0_fromNewest 16 = .ok (.aload_n 0, 1) := by decide +kernel
theorem dX0_fromNewest_17 : decode cX0_fromNewest 17 = .ok (.getfield 15, 3) := by decide +kernel
theorem dX0_fromNewest_20 : decode cX0_fromNewest 20 = .ok (.iconst 1, 1) := by decide +kernel
theorem dX0_fromNewest_21 : decode cX0_fromNewest 21 = .ok (.isub, 1) := by decide +kernel
theorem dX0_fromNewest_22 : decode cX0_fromNewest 22 = .ok (.iload_n 1, 1) := by decide +kernel
theorem dX0_fromNewest_23 : decode cX0_fromNewest 23 = .ok (.isub, 1) := by decide +kernel
theorem dX0_fromNewest_24 : decode cX0_fromNewest 24 = .ok (.iaload, 1) := by decide +kernel
theorem dX0_fromNewest_25 : decode cX0_fromNewest 25 = .ok (.goto 4, 3) := by decide +kernel
theorem dX0_fromNewest_28 : decode cX0_fromNewest 28 = .ok (.iconst (-1), 1) := by decide +kernel
theorem dX0_fromNewest_29 : decode cX0_fromNewest 29 = .ok (.ireturn, 1) := by decide +kernel
set_option maxRecDepth 20000 in
theorem ggX0_addNewest_X1_isAddress : GoodIn wsX0_addNewest wsX1_isAddress := goodIn_r _ [5] (by decide +kernel) (by decide +kernel)
set_option maxRecDepth 20000 in
theorem gX0_addNewest_X1_isAddress_n23 : GoodIn wsX0_addNewest (wsX1_isAddress) := ggX0_addNewest_X1_isAddress
theorem dX0_addNewest_0 : decode cX0_addNewest 0 = .ok (.iload_n 1, 1) := by decide +kernel
theorem dX0_addNewest_1 : decode cX0_addNewest 1 = .ok (.invokestatic 23, 3) := by decide +kernel
theorem dX0_addNewest_4 : decode cX0_addNewest 4 = .ok (.ifCond .eq 32, 3) := by decide +kernel
theorem dX0_addNewest_7 : decode cX0_addNewest 7 = .ok (.aload_n 0, 1) := by decide +kernel
theorem dX0_addNewest_8 : decode cX0_addNewest 8 = .ok (.getfield 15, 3) := by decide +kernel
theorem dX0_addNewest_11 : decode cX0_addNewest 11 = .ok (.bipush 64, 2) := by decide +kernel
theorem dX0_addNewest_13 : decode cX0_addNewest 13 = .ok (.if_icmp .ge 23, 3) := by decide +kernel
theorem dX0_addNewest_16 : decode cX0_addNewest 16 = .ok (.aload_n 0, 1) := by decide +kernel
theorem dX0_addNewest_17 : decode cX0_addNewest 17 = .ok (.getfield 9, 3) := by decide +kernel
theorem dX0_addNewest_20 : decode cX0_addNewest 20 = .ok (.aload_n 0, 1) := by decide +kernel
theorem dX0_addNewest_21 : decode cX0_addNewest 21 = .ok (.getfield 15, 3) := by decide +kernel
theorem dX0_addNewest_24 : decode cX0_addNewest 24 = .ok (.iload_n 1, 1) := by decide +kernel
theorem dX0_addNewest_25 : decode cX0_addNewest 25 = .ok (.iastore, 1) := by decide +kernel
theorem dX0_addNewest_26 : decode cX0_addNewest 26 = .ok (.aload_n 0, 1) := by decide +kernel
theorem dX0_addNewest_27 : decode cX0_addNewest 27 = .ok (.dup, 1) := by decide +kernel
theorem dX0_addNewest_28 : decode cX0_addNewest 28 = .ok (.getfield 15, 3) := by decide +kernel
theorem dX0_addNewest_31 : decode cX0_addNewest 31 = .ok (.iconst 1, 1) := by decide +kernel
theorem dX0_addNewest_32 : decode cX0_addNewest 32 = .ok (.iadd, 1) := by decide +kernel
theorem dX0_addNewest_33 : decode cX0_addNewest 33 = .ok (.putfield 15, 3) := by decide +kernel
theorem dX0_addNewest_36 : decode cX0_addNewest 36 = .ok (.return_, 1) := by decide +kernel
set_option maxRecDepth 20000 in
theorem ggX0_oldest_X0_fromNewest : GoodIn wsX0_oldest wsX0_fromNewest := goodIn_r _ [6, 1, 7, 8, 9] (by decide +kernel) (by decide +kernel)
set_option maxRecDepth 20000 in
theorem gX0_oldest_X0_fromNewest : GoodIn wsX0_oldest (wsV RX0 27 RX0 yX0_fromNewest wsX0_fromNewest) := goodIn_app (goodIn_of _ (by decide +kernel)) ggX0_oldest_X0_fromNewest
theorem dX0_oldest_0 : decode cX0_oldest 0 = .ok (.aload_n 0, 1) := by decide +kernel
theorem dX0_oldest_1 : decode cX0_oldest 1 = .ok (.aload_n 0, 1) := by decide +kernel
theorem dX0_oldest_2 : decode cX0_oldest 2 = .ok (.getfield 15, 3) := by decide +kernel
theorem dX0_oldest_5 : decode cX0_oldest 5 = .ok (.iconst 1, 1) := by decide +kernel
theorem dX0_oldest_6 : decode cX0_oldest 6 = .ok (.isub, 1) := by decide +kernel
theorem dX0_oldest_7 : decode cX0_oldest 7 = .ok (.invokevirtual 27, 3) := by decide +kernel
theorem dX0_oldest_10 : decode cX0_oldest 10 = .ok (.ireturn, 1) := by decide +kernel
set_option maxRecDepth 20000 in
theorem ggX0_dropOldest_X0_oldest : GoodIn wsX0_dropOldest wsX0_oldest := goodIn_r _ [5, 6, 7, 8, 9, 4, 10, 11, 24, 25] (by decide +kernel) (by decide +kernel)
set_option maxRecDepth 20000 in
theorem gX0_dropOldest_X0_oldest : GoodIn wsX0_dropOldest (wsV RX0 30 RX0 yX0_oldest wsX0_oldest) := goodIn_app (goodIn_of _ (by decide +kernel)) ggX0_dropOldest_X0_oldest
set_option maxRecDepth 20000 in
theorem ggX0_dropOldest_X0_remove : GoodIn wsX0_dropOldest wsX0_remove := goodIn_r _ [15, 6, 11, 16, 17, 18, 19, 20, 21, 22, 4, 23, 24, 25] (by decide +kernel) (by decide +kernel)
set_option maxRecDepth 20000 in
theorem gX0_dropOldest_X0_remove : GoodIn wsX0_dropOldest (wsV RX0 34 RX0 yX0_remove wsX0_remove) := goodIn_app (goodIn_of _ (by decide +kernel)) ggX0_dropOldest_X0_remove
theorem dX0_dropOldest_0 : decode cX0_dropOldest 0 = .ok (.aload_n 0, 1) := by decide +kernel
theorem dX0_dropOldest_1 : decode cX0_dropOldest 1 = .ok (.aload_n 0, 1) := by decide +kernel
theorem dX0_dropOldest_2 : decode cX0_dropOldest 2 = .ok (.invokevirtual 30, 3) := by decide +kernel
theorem dX0_dropOldest_5 : decode cX0_dropOldest 5 = .ok (.invokevirtual 34, 3) := by decide +kernel
theorem dX0_dropOldest_8 : decode cX0_dropOldest 8 = .ok (.return_, 1) := by decide +kernel
set_option maxRecDepth 20000 in
theorem ggX0_remove_X0_placeOf : GoodIn wsX0_remove wsX0_placeOf := goodIn_r _ [11, 1, 2, 12, 13] (by decide +kernel) (by decide +kernel)
set_option maxRecDepth 20000 in
theorem gX0_remove_X0_placeOf : GoodIn wsX0_remove (wsV RX0 19 RX0 yX0_placeOf wsX0_placeOf) := goodIn_app (goodIn_of _ (by decide +kernel)) ggX0_remove_X0_placeOf
theorem dX0_remove_0 : decode cX0_remove 0 = .ok (.aload_n 0, 1) := by decide +kernel
theorem dX0_remove_1 : decode cX0_remove 1 = .ok (.iload_n 1, 1) := by decide +kernel
theorem dX0_remove_2 : decode cX0_remove 2 = .ok (.invokevirtual 19, 3) := by decide +kernel
theorem dX0_remove_5 : decode cX0_remove 5 = .ok (.istore_n 2, 1) := by decide +kernel
theorem dX0_remove_6 : decode cX0_remove 6 = .ok (.iload_n 2, 1) := by decide +kernel
theorem dX0_remove_7 : decode cX0_remove 7 = .ok (.ifCond .lt 34, 3) := by decide +kernel
theorem dX0_remove_10 : decode cX0_remove 10 = .ok (.aload_n 0, 1) := by decide +kernel
theorem dX0_remove_11 : decode cX0_remove 11 = .ok (.dup, 1) := by decide +kernel
theorem dX0_remove_12 : decode cX0_remove 12 = .ok (.getfield 15, 3) := by decide +kernel
theorem dX0_remove_15 : decode cX0_remove 15 = .ok (.iconst 1, 1) := by decide +kernel
theorem dX0_remove_16 : decode cX0_remove 16 = .ok (.isub, 1) := by decide +kernel
theorem dX0_remove_17 : decode cX0_remove 17 = .ok (.putfield 15, 3) := by decide +kernel
theorem dX0_remove_20 : decode cX0_remove 20 = .ok (.aload_n 0, 1) := by decide +kernel
theorem dX0_remove_21 : decode cX0_remove 21 = .ok (.getfield 9, 3) := by decide +kernel
theorem dX0_remove_24 : decode cX0_remove 24 = .ok (.iload_n 2, 1) := by decide +kernel
theorem dX0_remove_25 : decode cX0_remove 25 = .ok (.iconst 1, 1) := by decide +kernel
theorem dX0_remove_26 : decode cX0_remove 26 = .ok (.iadd, 1) := by decide +kernel
theorem dX0_remove_27 : decode cX0_remove 27 = .ok (.aload_n 0, 1) := by decide +kernel
theorem dX0_remove_28 : decode cX0_remove 28 = .ok (.getfield 9, 3) := by decide +kernel
theorem dX0_remove_31 : decode cX0_remove 31 = .ok (.iload_n 2, 1) := by decide +kernel
theorem dX0_remove_32 : decode cX0_remove 32 = .ok (.aload_n 0, 1) := by decide +kernel
theorem dX0_remove_33 : decode cX0_remove 33 = .ok (.getfield 15, 3) := by decide +kernel
theorem dX0_remove_36 : decode cX0_remove 36 = .ok (.iload_n 2, 1) := by decide +kernel
theorem dX0_remove_37 : decode cX0_remove 37 = .ok (.isub, 1) := by decide +kernel
theorem dX0_remove_38 : decode cX0_remove 38 = .ok (.invokestatic 38, 3) := by decide +kernel
theorem dX0_remove_41 : decode cX0_remove 41 = .ok (.return_, 1) := by decide +kernel
theorem dX0_placeOf_0 : decode cX0_placeOf 0 = .ok (.iconst 0, 1) := by decide +kernel
theorem dX0_placeOf_1 : decode cX0_placeOf 1 = .ok (.istore_n 2, 1) := by decide +kernel
theorem dX0_placeOf_2 : decode cX0_placeOf 2 = .ok (.iload_n 2, 1) := by decide +kernel
theorem dX0_placeOf_3 : decode cX0_placeOf 3 = .ok (.aload_n 0, 1) := by decide +kernel
theorem dX0_placeOf_4 : decode cX0_placeOf 4 = .ok (.getfield 15, 3) := by decide +kernel
theorem dX0_placeOf_7 : decode cX0_placeOf 7 = .ok (.if_icmp .ge 21, 3) := by decide +kernel
theorem dX0_placeOf_10 : decode cX0_placeOf 10 = .ok (.aload_n 0, 1) := by decide +kernel
theorem dX0_placeOf_11 : decode cX0_placeOf 11 = .ok (.getfield 9, 3) := by decide +kernel
theorem dX0_placeOf_14 : decode cX0_placeOf 14 = .ok (.iload_n 2, 1) := by decide +kernel
theorem dX0_placeOf_15 : decode cX0_placeOf 15 = .ok (.iaload, 1) := by decide +kernel
theorem dX0_placeOf_16 : decode cX0_placeOf 16 = .ok (.iload_n 1, 1) := by decide +kernel
theorem dX0_placeOf_17 : decode cX0_placeOf 17 = .ok (.if_icmp .ne 5, 3) := by decide +kernel
theorem dX0_placeOf_20 : decode cX0_placeOf 20 = .ok (.iload_n 2, 1) := by decide +kernel
theorem dX0_placeOf_21 : decode cX0_placeOf 21 = .ok (.ireturn, 1) := by decide +kernel
theorem dX0_placeOf_22 : decode cX0_placeOf 22 = .ok (.iinc 2 1, 3) := by decide +kernel
theorem dX0_placeOf_25 : decode cX0_placeOf 25 = .ok (.goto (-23), 3) := by decide +kernel
theorem dX0_placeOf_28 : decode cX0_placeOf 28 = .ok (.iconst (-1), 1) := by decide +kernel
theorem dX0_placeOf_29 : decode cX0_placeOf 29 = .ok (.ireturn, 1) := by decide +kernel
set_option maxRecDepth 20000 in
theorem ggX1_init_X0_init : GoodIn wsX1_init wsX0_init := goodIn_r _ [18, 19, 2, 3, 11, 20, 25, 26] (by decide +kernel) (by decide +kernel)
set_option maxRecDepth 20000 in
theorem gX1_init_X0_init_n9 : GoodIn wsX1_init (wsX0_init) := ggX1_init_X0_init
set_option maxRecDepth 20000 in
theorem ggX1_init_J9_floorMod_7cf53 : GoodIn wsX1_init wsJ9_floorMod_7cf53 := goodIn_r _ [24] (by decide +kernel) (by decide +kernel)
set_option maxRecDepth 20000 in
theorem gX1_init_J9_floorMod_7cf53 : GoodIn wsX1_init (va_wsS RX1 36 yJ9_floorMod_7cf53 wsJ9_floorMod_7cf53) := goodIn_app (goodIn_of _ (by decide +kernel)) ggX1_init_J9_floorMod_7cf53
theorem dX1_init_0 : decode cX1_init 0 = .ok (.aload_n 0, 1) := by decide +kernel
theorem dX1_init_1 : decode cX1_init 1 = .ok (.invokespecial 1, 3) := by decide +kernel
theorem dX1_init_4 : decode cX1_init 4 = .ok (.aload_n 0, 1) := by decide +kernel
theorem dX1_init_5 : decode cX1_init 5 = .ok (.new 7, 3) := by decide +kernel
theorem dX1_init_8 : decode cX1_init 8 = .ok (.dup, 1) := by decide +kernel
theorem dX1_init_9 : decode cX1_init 9 = .ok (.invokespecial 9, 3) := by decide +kernel
theorem dX1_init_12 : decode cX1_init 12 = .ok (.putfield 10, 3) := by decide +kernel
theorem dX1_init_15 : decode cX1_init 15 = .ok (.aload_n 0, 1) := by decide +kernel
theorem dX1_init_16 : decode cX1_init 16 = .ok (.new 7, 3) := by decide +kernel
theorem dX1_init_19 : decode cX1_init 19 = .ok (.dup, 1) := by decide +kernel
theorem dX1_init_20 : decode cX1_init 20 = .ok (.invokespecial 9, 3) := by decide +kernel
theorem dX1_init_23 : decode cX1_init 23 = .ok (.putfield 16, 3) := by decide +kernel
theorem dX1_init_26 : decode cX1_init 26 = .ok (.aload_n 0, 1) := by decide +kernel
theorem dX1_init_27 : decode cX1_init 27 = .ok (.new 7, 3) := by decide +kernel
theorem dX1_init_30 : decode cX1_init 30 = .ok (.dup, 1) := by decide +kernel
theorem dX1_init_31 : decode cX1_init 31 = .ok (.invokespecial 9, 3) := by decide +kernel
theorem dX1_init_34 : decode cX1_init 34 = .ok (.putfield 19, 3) := by decide +kernel
theorem dX1_init_37 : decode cX1_init 37 = .ok (.aload_n 0, 1) := by decide +kernel
theorem dX1_init_38 : decode cX1_init 38 = .ok (.new 7, 3) := by decide +kernel
theorem dX1_init_41 : decode cX1_init 41 = .ok (.dup, 1) := by decide +kernel
theorem dX1_init_42 : decode cX1_init 42 = .ok (.invokespecial 9, 3) := by decide +kernel
theorem dX1_init_45 : decode cX1_init 45 = .ok (.putfield 22, 3) := by decide +kernel
theorem dX1_init_48 : decode cX1_init 48 = .ok (.aload_n 0, 1) := by decide +kernel
theorem dX1_init_49 : decode cX1_init 49 = .ok (.bipush 64, 2) := by decide +kernel
theorem dX1_init_51 : decode cX1_init 51 = .ok (.newarray .int, 2) := by decide +kernel
theorem dX1_init_53 : decode cX1_init 53 = .ok (.putfield 25, 3) := by decide +kernel
theorem dX1_init_56 : decode cX1_init 56 = .ok (.aload_n 0, 1) := by decide +kernel
theorem dX1_init_57 : decode cX1_init 57 = .ok (.bipush 64, 2) := by decide +kernel
theorem dX1_init_59 : decode cX1_init 59 = .ok (.newarray .boolean, 2) := by decide +kernel
theorem dX1_init_61 : decode cX1_init 61 = .ok (.putfield 29, 3) := by decide +kernel
theorem dX1_init_64 : decode cX1_init 64 = .ok (.aload_n 0, 1) := by decide +kernel
theorem dX1_init_65 : decode cX1_init 65 = .ok (.bipush 64, 2) := by decide +kernel
theorem dX1_init_67 : decode cX1_init 67 = .ok (.newarray .int, 2) := by decide +kernel
theorem dX1_init_69 : decode cX1_init 69 = .ok (.putfield 33, 3) := by decide +kernel
theorem dX1_init_72 : decode cX1_init 72 = .ok (.aload_n 0, 1) := by decide +kernel
theorem dX1_init_73 : decode cX1_init 73 = .ok (.iload_n 1, 1) := by decide +kernel
theorem dX1_init_74 : decode cX1_init 74 = .ok (.bipush 24, 2) := by decide +kernel
theorem dX1_init_76 : decode cX1_init 76 = .ok (.invokestatic 36, 3) := by decide +kernel
theorem dX1_init_79 : decode cX1_init 79 = .ok (.iconst 1, 1) := by decide +kernel
theorem dX1_init_80 : decode cX1_init 80 = .ok (.iadd, 1) := by decide +kernel
theorem dX1_init_81 : decode cX1_init 81 = .ok (.putfield 42, 3) := by decide +kernel
theorem dX1_init_84 : decode cX1_init 84 = .ok (.return_, 1) := by decide +kernel
set_option maxRecDepth 20000 in
theorem ggX1_init__X0_empty : GoodIn wsX1_init_ wsX0_empty := goodIn_r _ [16, 17, 34, 35] (by decide +kernel) (by decide +kernel)
set_option maxRecDepth 20000 in
theorem gX1_init__X0_empty : GoodIn wsX1_init_ (wsV RX1 46 RX0 yX0_empty wsX0_empty) := goodIn_app (goodIn_of _ (by decide +kernel)) ggX1_init__X0_empty
set_option maxRecDepth 20000 in
theorem ggX1_init__J7_fill_53178 : GoodIn wsX1_init_ wsJ7_fill_53178 := goodIn_r _ [21] (by decide +kernel) (by decide +kernel)
set_option maxRecDepth 20000 in
theorem gX1_init__J7_fill_53178 : GoodIn wsX1_init_ (va_wsS RX1 49 yJ7_fill_53178 wsJ7_fill_53178) := goodIn_app (goodIn_of _ (by decide +kernel)) ggX1_init__J7_fill_53178
theorem dX1_init__0 : decode cX1_init_ 0 = .ok (.aload_n 0, 1) := by decide +kernel
theorem dX1_init__1 : decode cX1_init_ 1 = .ok (.getfield 10, 3) := by decide +kernel
theorem dX1_init__4 : decode cX1_init_ 4 = .ok (.invokevirtual 46, 3) := by decide +kernel
theorem dX1_init__7 : decode cX1_init_ 7 = .ok (.aload_n 0, 1) := by decide +kernel
theorem dX1_init__8 : decode cX1_init_ 8 = .ok (.getfield 16, 3) := by decide +kernel
theorem dX1_init__11 : decode cX1_init_ 11 = .ok (.invokevirtual 46, 3) := by decide +kernel
theorem dX1_init__14 : decode cX1_init_ 14 = .ok (.aload_n 0, 1) := by decide +kernel
theorem dX1_init__15 : decode cX1_init_ 15 = .ok (.getfield 19, 3) := by decide +kernel
theorem dX1_init__18 : decode cX1_init_ 18 = .ok (.invokevirtual 46, 3) := by decide +kernel
theorem dX1_init__21 : decode cX1_init_ 21 = .ok (.aload_n 0, 1) := by decide +kernel
theorem dX1_init__22 : decode cX1_init_ 22 = .ok (.getfield 22, 3) := by decide +kernel
theorem dX1_init__25 : decode cX1_init_ 25 = .ok (.invokevirtual 46, 3) := by decide +kernel
theorem dX1_init__28 : decode cX1_init_ 28 = .ok (.aload_n 0, 1) := by decide +kernel
theorem dX1_init__29 : decode cX1_init_ 29 = .ok (.getfield 25, 3) := by decide +kernel
theorem dX1_init__32 : decode cX1_init_ 32 = .ok (.iconst 0, 1) := by decide +kernel
theorem dX1_init__33 : decode cX1_init_ 33 = .ok (.invokestatic 49, 3) := by decide +kernel
theorem dX1_init__36 : decode cX1_init_ 36 = .ok (.aload_n 0, 1) := by decide +kernel
theorem dX1_init__37 : decode cX1_init_ 37 = .ok (.getfield 33, 3) := by decide +kernel
theorem dX1_init__40 : decode cX1_init_ 40 = .ok (.iconst 0, 1) := by decide +kernel
theorem dX1_init__41 : decode cX1_init_ 41 = .ok (.invokestatic 49, 3) := by decide +kernel
theorem dX1_init__44 : decode cX1_init_ 44 = .ok (.iconst 0, 1) := by decide +kernel
theorem dX1_init__45 : decode cX1_init_ 45 = .ok (.istore_n 1, 1) := by decide +kernel
theorem dX1_init__46 : decode cX1_init_ 46 = .ok (.iload_n 1, 1) := by decide +kernel
theorem dX1_init__47 : decode cX1_init_ 47 = .ok (.bipush 64, 2) := by decide +kernel
theorem dX1_init__49 : decode cX1_init_ 49 = .ok (.if_icmp .ge 16, 3) := by decide +kernel
theorem dX1_init__52 : decode cX1_init_ 52 = .ok (.aload_n 0, 1) := by decide +kernel
theorem dX1_init__53 : decode cX1_init_ 53 = .ok (.getfield 29, 3) := by decide +kernel
theorem dX1_init__56 : decode cX1_init_ 56 = .ok (.iload_n 1, 1) := by decide +kernel
theorem dX1_init__57 : decode cX1_init_ 57 = .ok (.iconst 0, 1) := by decide +kernel
theorem dX1_init__58 : decode cX1_init_ 58 = .ok (.bastore, 1) := by decide +kernel
theorem dX1_init__59 : decode cX1_init_ 59 = .ok (.iinc 1 1, 3) := by decide +kernel
theorem dX1_init__62 : decode cX1_init_ 62 = .ok (.goto (-16), 3) := by decide +kernel
theorem dX1_init__65 : decode cX1_init_ 65 = .ok (.aload_n 0, 1) := by decide +kernel
theorem dX1_init__66 : decode cX1_init_ 66 = .ok (.iconst 0, 1) := by decide +kernel
theorem dX1_init__67 : decode cX1_init_ 67 = .ok (.putfield 55, 3) := by decide +kernel
theorem dX1_init__70 : decode cX1_init_ 70 = .ok (.aload_n 0, 1) := by decide +kernel
theorem dX1_init__71 : decode cX1_init_ 71 = .ok (.iconst 0, 1) := by decide +kernel
theorem dX1_init__72 : decode cX1_init_ 72 = .ok (.putfield 58, 3) := by decide +kernel
theorem dX1_init__75 : decode cX1_init_ 75 = .ok (.aload_n 0, 1) := by decide +kernel
theorem dX1_init__76 : decode cX1_init_ 76 = .ok (.iconst 0, 1) := by decide +kernel
theorem dX1_init__77 : decode cX1_init_ 77 = .ok (.putfield 61, 3) := by decide +kernel
theorem dX1_init__80 : decode cX1_init_ 80 = .ok (.aload_n 0, 1) := by decide +kernel
theorem dX1_init__81 : decode cX1_init_ 81 = .ok (.iconst 0, 1) := by decide +kernel
theorem dX1_init__82 : decode cX1_init_ 82 = .ok (.putfield 64, 3) := by decide +kernel
theorem dX1_init__85 : decode cX1_init_ 85 = .ok (.return_, 1) := by decide +kernel
set_option maxRecDepth 20000 in
theorem ggX1_read_X1_isAddress : GoodIn wsX1_read wsX1_isAddress := goodIn_r _ [5] (by decide +kernel) (by decide +kernel)
set_option maxRecDepth 20000 in
theorem gX1_read_X1_isAddress : GoodIn wsX1_read (va_wsS RX1 67 yX1_isAddress wsX1_isAddress) := goodIn_app (goodIn_of _ (by decide +kernel)) ggX1_read_X1_isAddress
set_option maxRecDepth 20000 in
theorem ggX1_read_X1_request : GoodIn wsX1_read wsX1_request := goodIn_r _ [9, 10, 11, 12, 13, 14, 15, 4, 16, 17, 18, 19, 20, 21, 22, 23, 24, 25, 26, 27, 28, 29, 30, 31, 32, 33, 34, 35, 36, 37, 38, 39, 40, 41, 42, 43, 44, 45, 46, 47, 48, 49, 50, 3, 5, 51, 52, 53, 54, 55, 56, 57, 58, 59, 60, 61, 62, 63, 64, 65, 66, 67, 68, 69, 70, 71, 72, 73, 2, 74, 75, 76, 77, 78, 1, 79, 80, 81, 82, 83, 84, 85, 86, 87, 88, 89, 90, 91, 92, 93, 94, 95, 96, 97, 98, 99, 100, 101, 102, 103, 104, 105, 106, 107, 108, 109, 110, 111, 112, 113, 114, 115, 116, 117, 118, 119, 120, 121, 122, 123, 124, 125] (by decide +kernel) (by decide +kernel)
set_option maxRecDepth 20000 in
theorem gX1_read_X1_request : GoodIn wsX1_read (wsV RX1 71 RX1 yX1_request wsX1_request) := goodIn_app (goodIn_of _ (by decide +kernel)) ggX1_read_X1_request
theorem dX1_read_0 : decode cX1_read 0 = .ok (.iload_n 1, 1) := by decide +kernel
theorem dX1_read_1 : decode cX1_read 1 = .ok (.invokestatic 67, 3) := by decide +kernel
theorem dX1_read_4 : decode cX1_read 4 = .ok (.ifCond .ne 5, 3) := by decide +kernel
theorem dX1_read_7 : decode cX1_read 7 = .ok (.iconst 0, 1) := by decide +kernel
theorem dX1_read_8 : decode cX1_read 8 = .ok (.ireturn, 1) := by decide +kernel
theorem dX1_read_9 : decode cX1_read 9 = .ok (.aload_n 0, 1) := by decide +kernel
theorem dX1_read_10 : decode cX1_read 10 = .ok (.iload_n 1, 1) := by decide +kernel
theorem dX1_read_11 : decode cX1_read 11 = .ok (.invokevirtual 71, 3) := by decide +kernel
theorem dX1_read_14 : decode cX1_read 14 = .ok (.aload_n 0, 1) := by decide +kernel
theorem dX1_read_15 : decode cX1_read 15 = .ok (.getfield 25, 3) := by decide +kernel
theorem dX1_read_18 : decode cX1_read 18 = .ok (.iload_n 1, 1) := by decide +kernel
theorem dX1_read_19 : decode cX1_read 19 = .ok (.iaload, 1) := by decide +kernel
theorem dX1_read_20 : decode cX1_read 20 = .ok (.ireturn, 1) := by decide +kernel
set_option maxRecDepth 20000 in
theorem ggX1_write_X1_isAddress : GoodIn wsX1_write wsX1_isAddress := goodIn_r _ [6] (by decide +kernel) (by decide +kernel)
set_option maxRecDepth 20000 in
theorem gX1_write_X1_isAddress : GoodIn wsX1_write (va_wsS RX1 67 yX1_isAddress wsX1_isAddress) := goodIn_app (goodIn_of _ (by decide +kernel)) ggX1_write_X1_isAddress
set_option maxRecDepth 20000 in
theorem ggX1_write_X1_request : GoodIn wsX1_write wsX1_request := goodIn_r _ [10, 11, 12, 13, 14, 15, 16, 5, 17, 18, 19, 20, 21, 22, 23, 24, 25, 26, 27, 28, 29, 30, 31, 32, 33, 34, 35, 36, 37, 38, 39, 40, 41, 42, 43, 44, 45, 46, 47, 48, 49, 50, 51, 4, 6, 52, 53, 54, 55, 56, 57, 58, 59, 60, 61, 62, 63, 64, 65, 66, 67, 68, 69, 70, 71, 72, 2, 73, 3, 74, 75, 76, 77, 78, 1, 79, 80, 81, 82, 83, 84, 85, 86, 87, 88, 89, 90, 91, 92, 93, 94, 95, 96, 97, 98, 99, 100, 101, 102, 103, 104, 105, 106, 107, 108, 109, 110, 111, 112, 113, 114, 115, 116, 117, 118, 119, 120, 121, 122, 123, 124, 125] (by decide +kernel) (by decide +kernel)
set_option maxRecDepth 20000 in
theorem gX1_write_X1_request : GoodIn wsX1_write (wsV RX1 71 RX1 yX1_request wsX1_request) := goodIn_app (goodIn_of _ (by decide +kernel)) ggX1_write_X1_request
theorem dX1_write_0 : decode cX1_write 0 = .ok (.iload_n 1, 1) := by decide +kernel
theorem dX1_write_1 : decode cX1_write 1 = .ok (.invokestatic 67, 3) := by decide +kernel
theorem dX1_write_4 : decode cX1_write 4 = .ok (.ifCond .ne 5, 3) := by decide +kernel
theorem dX1_write_7 : decode cX1_write 7 = .ok (.iconst 0, 1) := by decide +kernel
theorem dX1_write_8 : decode cX1_write 8 = .ok (.ireturn, 1) := by decide +kernel
theorem dX1_write_9 : decode cX1_write 9 = .ok (.aload_n 0, 1) := by decide +kernel
theorem dX1_write_10 : decode cX1_write 10 = .ok (.iload_n 1, 1) := by decide +kernel
theorem dX1_write_11 : decode cX1_write 11 = .ok (.invokevirtual 71, 3) := by decide +kernel
theorem dX1_write_14 : decode cX1_write 14 = .ok (.aload_n 0, 1) := by decide +kernel
theorem dX1_write_15 : decode cX1_write 15 = .ok (.getfield 25, 3) := by decide +kernel
theorem dX1_write_18 : decode cX1_write 18 = .ok (.iload_n 1, 1) := by decide +kernel
theorem dX1_write_19 : decode cX1_write 19 = .ok (.iload_n 2, 1) := by decide +kernel
theorem dX1_write_20 : decode cX1_write 20 = .ok (.iastore, 1) := by decide +kernel
theorem dX1_write_21 : decode cX1_write 21 = .ok (.aload_n 0, 1) := by decide +kernel
theorem dX1_write_22 : decode cX1_write 22 = .ok (.getfield 29, 3) := by decide +kernel
theorem dX1_write_25 : decode cX1_write 25 = .ok (.iload_n 1, 1) := by decide +kernel
theorem dX1_write_26 : decode cX1_write 26 = .ok (.iconst 1, 1) := by decide +kernel
theorem dX1_write_27 : decode cX1_write 27 = .ok (.bastore, 1) := by decide +kernel
theorem dX1_write_28 : decode cX1_write 28 = .ok (.iconst 1, 1) := by decide +kernel
theorem dX1_write_29 : decode cX1_write 29 = .ok (.ireturn, 1) := by decide +kernel
set_option maxRecDepth 20000 in
theorem ggX1_flush_X1_writeBack : GoodIn wsX1_flush wsX1_writeBack := goodIn_r _ [6, 7, 8, 1, 9, 10, 11, 12, 13, 14, 15, 16, 17, 18, 19, 20] (by decide +kernel) (by decide +kernel)
set_option maxRecDepth 20000 in
theorem gX1_flush_X1_writeBack : GoodIn wsX1_flush (wsV RX1 75 RX1 yX1_writeBack wsX1_writeBack) := goodIn_app (goodIn_of _ (by decide +kernel)) ggX1_flush_X1_writeBack
theorem dX1_flush_0 : decode cX1_flush 0 = .ok (.iconst 0, 1) := by decide +kernel
theorem dX1_flush_1 : decode cX1_flush 1 = .ok (.istore_n 1, 1) := by decide +kernel
theorem dX1_flush_2 : decode cX1_flush 2 = .ok (.iconst 0, 1) := by decide +kernel
theorem dX1_flush_3 : decode cX1_flush 3 = .ok (.istore_n 2, 1) := by decide +kernel
theorem dX1_flush_4 : decode cX1_flush 4 = .ok (.iload_n 2, 1) := by decide +kernel
theorem dX1_flush_5 : decode cX1_flush 5 = .ok (.bipush 64, 2) := by decide +kernel
theorem dX1_flush_7 : decode cX1_flush 7 = .ok (.if_icmp .ge 26, 3) := by decide +kernel
theorem dX1_flush_10 : decode cX1_flush 10 = .ok (.aload_n 0, 1) := by decide +kernel
theorem dX1_flush_11 : decode cX1_flush 11 = .ok (.getfield 29, 3) := by decide +kernel
theorem dX1_flush_14 : decode cX1_flush 14 = .ok (.iload_n 2, 1) := by decide +kernel
theorem dX1_flush_15 : decode cX1_flush 15 = .ok (.baload, 1) := by decide +kernel
theorem dX1_flush_16 : decode cX1_flush 16 = .ok (.ifCond .eq 11, 3) := by decide +kernel
theorem dX1_flush_19 : decode cX1_flush 19 = .ok (.aload_n 0, 1) := by decide +kernel
theorem dX1_flush_20 : decode cX1_flush 20 = .ok (.iload_n 2, 1) := by decide +kernel
theorem dX1_flush_21 : decode cX1_flush 21 = .ok (.invokevirtual 75, 3) := by decide +kernel
theorem dX1_flush_24 : decode cX1_flush 24 = .ok (.iinc 1 1, 3) := by decide +kernel
theorem dX1_flush_27 : decode cX1_flush 27 = .ok (.iinc 2 1, 3) := by decide +kernel
theorem dX1_flush_30 : decode cX1_flush 30 = .ok (.goto (-26), 3) := by decide +kernel
theorem dX1_flush_33 : decode cX1_flush 33 = .ok (.iload_n 1, 1) := by decide +kernel
theorem dX1_flush_34 : decode cX1_flush 34 = .ok (.ireturn, 1) := by decide +kernel
set_option maxRecDepth 20000 in
theorem ggX1_whichList_X1_listNumbered : GoodIn wsX1_whichList wsX1_listNumbered := goodIn_r _ [5, 6, 7, 8, 9, 21, 22, 23, 24, 25, 26, 27, 28, 29, 30, 31, 32] (by decide +kernel) (by decide +kernel)
set_option maxRecDepth 20000 in
theorem gX1_whichList_X1_listNumbered : GoodIn wsX1_whichList (wsV RX1 78 RX1 yX1_listNumbered wsX1_listNumbered) := goodIn_app (goodIn_of _ (by decide +kernel)) ggX1_whichList_X1_listNumbered
set_option maxRecDepth 20000 in
theorem ggX1_whichList_X0_has : GoodIn wsX1_whichList wsX0_has := goodIn_r _ [14, 15, 16, 17, 13, 18, 19, 20, 33, 34] (by decide +kernel) (by decide +kernel)
set_option maxRecDepth 20000 in
theorem gX1_whichList_X0_has : GoodIn wsX1_whichList (wsV RX1 82 RX0 yX0_has wsX0_has) := goodIn_app (goodIn_of _ (by decide +kernel)) ggX1_whichList_X0_has
theorem dX1_whichList_0 : decode cX1_whichList 0 = .ok (.iconst 1, 1) := by decide +kernel
theorem dX1_whichList_1 : decode cX1_whichList 1 = .ok (.istore_n 2, 1) := by decide +kernel
theorem dX1_whichList_2 : decode cX1_whichList 2 = .ok (.iload_n 2, 1) := by decide +kernel
theorem dX1_whichList_3 : decode cX1_whichList 3 = .ok (.iconst 4, 1) := by decide +kernel
theorem dX1_whichList_4 : decode cX1_whichList 4 = .ok (.if_icmp .gt 23, 3) := by decide +kernel
theorem dX1_whichList_7 : decode cX1_whichList 7 = .ok (.aload_n 0, 1) := by decide +kernel
theorem dX1_whichList_8 : decode cX1_whichList 8 = .ok (.iload_n 2, 1) := by decide +kernel
theorem dX1_whichList_9 : decode cX1_whichList 9 = .ok (.invokevirtual 78, 3) := by decide +kernel
theorem dX1_whichList_12 : decode cX1_whichList 12 = .ok (.iload_n 1, 1) := by decide +kernel
theorem dX1_whichList_13 : decode cX1_whichList 13 = .ok (.invokevirtual 82, 3) := by decide +kernel
theorem dX1_whichList_16 : decode cX1_whichList 16 = .ok (.ifCond .eq 5, 3) := by decide +kernel
theorem dX1_whichList_19 : decode cX1_whichList 19 = .ok (.iload_n 2, 1) := by decide +kernel
theorem dX1_whichList_20 : decode cX1_whichList 20 = .ok (.ireturn, 1) := by decide +kernel
theorem dX1_whichList_21 : decode cX1_whichList 21 = .ok (.iinc 2 1, 3) := by decide +kernel
theorem dX1_whichList_24 : decode cX1_whichList 24 = .ok (.goto (-22), 3) := by decide +kernel
theorem dX1_whichList_27 : decode cX1_whichList 27 = .ok (.iconst 0, 1) := by decide +kernel
theorem dX1_whichList_28 : decode cX1_whichList 28 = .ok (.ireturn, 1) := by decide +kernel
set_option maxRecDepth 20000 in
theorem ggX1_at_X1_isList : GoodIn wsX1_at wsX1_isList := goodIn_r _ [4] (by decide +kernel) (by decide +kernel)
set_option maxRecDepth 20000 in
theorem gX1_at_X1_isList : GoodIn wsX1_at (va_wsS RX1 85 yX1_isList wsX1_isList) := goodIn_app (goodIn_of _ (by decide +kernel)) ggX1_at_X1_isList
set_option maxRecDepth 20000 in
theorem ggX1_at_X1_listNumbered : GoodIn wsX1_at wsX1_listNumbered := goodIn_r _ [8, 9, 10, 11, 12, 20, 21, 22, 23, 24, 25, 26, 27, 28, 29, 30, 31] (by decide +kernel) (by decide +kernel)
set_option maxRecDepth 20000 in
theorem gX1_at_X1_listNumbered : GoodIn wsX1_at (wsV RX1 78 RX1 yX1_listNumbered wsX1_listNumbered) := goodIn_app (goodIn_of _ (by decide +kernel)) ggX1_at_X1_listNumbered
set_option maxRecDepth 20000 in
theorem ggX1_at_X0_fromNewest : GoodIn wsX1_at wsX0_fromNewest := goodIn_r _ [17, 18, 19, 32, 33] (by decide +kernel) (by decide +kernel)
set_option maxRecDepth 20000 in
theorem gX1_at_X0_fromNewest : GoodIn wsX1_at (wsV RX1 88 RX0 yX0_fromNewest wsX0_fromNewest) := goodIn_app (goodIn_of _ (by decide +kernel)) ggX1_at_X0_fromNewest
theorem dX1_at_0 : decode cX1_at 0 = .ok (.iload_n 1, 1) := by decide +kernel
theorem dX1_at_1 : decode cX1_at 1 = .ok (.invokestatic 85, 3) := by decide +kernel
theorem dX1_at_4 : decode cX1_at 4 = .ok (.ifCond .eq 15, 3) := by decide +kernel
theorem dX1_at_7 : decode cX1_at 7 = .ok (.aload_n 0, 1) := by decide +kernel
theorem dX1_at_8 : decode cX1_at 8 = .ok (.iload_n 1, 1) := by decide +kernel
theorem dX1_at_9 : decode cX1_at 9 = .ok (.invokevirtual 78, 3) := by decide +kernel
theorem dX1_at_12 : decode cX1_at 12 = .ok (.iload_n 2, 1) := by decide +kernel
theorem dX1_at_13 : decode cX1_at 13 = .ok (.invokevirtual 88, 3) := by decide +kernel
theorem dX1_at_16 : decode cX1_at 16 = .ok (.goto 4, 3) := by decide +kernel
theorem dX1_at_19 : decode cX1_at 19 = .ok (.iconst (-1), 1) := by decide +kernel
theorem dX1_at_20 : decode cX1_at 20 = .ok (.ireturn, 1) := by decide +kernel
set_option maxRecDepth 20000 in
theorem ggX1_length_X1_isList : GoodIn wsX1_length wsX1_isList := goodIn_r _ [4] (by decide +kernel) (by decide +kernel)
set_option maxRecDepth 20000 in
theorem gX1_length_X1_isList : GoodIn wsX1_length (va_wsS RX1 85 yX1_isList wsX1_isList) := goodIn_app (goodIn_of _ (by decide +kernel)) ggX1_length_X1_isList
set_option maxRecDepth 20000 in
theorem ggX1_length_X1_listNumbered : GoodIn wsX1_length wsX1_listNumbered := goodIn_r _ [8, 9, 10, 11, 12, 19, 20, 21, 22, 23, 24, 25, 26, 27, 28, 29, 30] (by decide +kernel) (by decide +kernel)
set_option maxRecDepth 20000 in
theorem gX1_length_X1_listNumbered : GoodIn wsX1_length (wsV RX1 78 RX1 yX1_listNumbered wsX1_listNumbered) := goodIn_app (goodIn_of _ (by decide +kernel)) ggX1_length_X1_listNumbered
set_option maxRecDepth 20000 in
theorem ggX1_length_X0_size : GoodIn wsX1_length wsX0_size := goodIn_r _ [17, 18, 31, 32] (by decide +kernel) (by decide +kernel)
set_option maxRecDepth 20000 in
theorem gX1_length_X0_size : GoodIn wsX1_length (wsV RX1 92 RX0 yX0_size wsX0_size) := goodIn_app (goodIn_of _ (by decide +kernel)) ggX1_length_X0_size
theorem dX1_length_0 : decode cX1_length 0 = .ok (.iload_n 1, 1) := by decide +kernel
theorem dX1_length_1 : decode cX1_length 1 = .ok (.invokestatic 85, 3) := by decide +kernel
theorem dX1_length_4 : decode cX1_length 4 = .ok (.ifCond .eq 14, 3) := by decide +kernel
theorem dX1_length_7 : decode cX1_length 7 = .ok (.aload_n 0, 1) := by decide +kernel
theorem dX1_length_8 : decode cX1_length 8 = .ok (.iload_n 1, 1) := by decide +kernel
theorem dX1_length_9 : decode cX1_length 9 = .ok (.invokevirtual 78, 3) := by decide +kernel
theorem dX1_length_12 : decode cX1_length 12 = .ok (.invokevirtual 92, 3) := by decide +kernel
theorem dX1_length_15 : decode cX1_length 15 = .ok (.goto 4, 3) := by decide +kernel
theorem dX1_length_18 : decode cX1_length 18 = .ok (.iconst (-1), 1) := by decide +kernel
theorem dX1_length_19 : decode cX1_length 19 = .ok (.ireturn, 1) := by decide +kernel
theorem dX1_target_0 : decode cX1_target 0 = .ok (.aload_n 0, 1) := by decide +kernel
theorem dX1_target_1 : decode cX1_target 1 = .ok (.getfield 55, 3) := by decide +kernel
theorem dX1_target_4 : decode cX1_target 4 = .ok (.ireturn, 1) := by decide +kernel
theorem dX1_hits_0 : decode cX1_hits 0 = .ok (.aload_n 0, 1) := by decide +kernel
theorem dX1_hits_1 : decode cX1_hits 1 = .ok (.getfield 58, 3) := by decide +kernel
theorem dX1_hits_4 : decode cX1_hits 4 = .ok (.ireturn, 1) := by decide +kernel
theorem dX1_misses_0 : decode cX1_misses 0 = .ok (.aload_n 0, 1) := by decide +kernel
theorem dX1_misses_1 : decode cX1_misses 1 = .ok (.getfield 61, 3) := by decide +kernel
theorem dX1_misses_4 : decode cX1_misses 4 = .ok (.ireturn, 1) := by decide +kernel
set_option maxRecDepth 20000 in
theorem ggX1_store_X1_isAddress : GoodIn wsX1_store wsX1_isAddress := goodIn_r _ [5] (by decide +kernel) (by decide +kernel)
set_option maxRecDepth 20000 in
theorem gX1_store_X1_isAddress : GoodIn wsX1_store (va_wsS RX1 67 yX1_isAddress wsX1_isAddress) := goodIn_app (goodIn_of _ (by decide +kernel)) ggX1_store_X1_isAddress
theorem dX1_store_0 : decode cX1_store 0 = .ok (.iload_n 1, 1) := by decide +kernel
theorem dX1_store_1 : decode cX1_store 1 = .ok (.invokestatic 67, 3) := by decide +kernel
theorem dX1_store_4 : decode cX1_store 4 = .ok (.ifCond .eq 12, 3) := by decide +kernel
theorem dX1_store_7 : decode cX1_store 7 = .ok (.aload_n 0, 1) := by decide +kernel
theorem dX1_store_8 : decode cX1_store 8 = .ok (.getfield 33, 3) := by decide +kernel
theorem dX1_store_11 : decode cX1_store 11 = .ok (.iload_n 1, 1) := by decide +kernel
theorem dX1_store_12 : decode cX1_store 12 = .ok (.iaload, 1) := by decide +kernel
theorem dX1_store_13 : decode cX1_store 13 = .ok (.goto 4, 3) := by decide +kernel
theorem dX1_store_16 : decode cX1_store 16 = .ok (.iconst 0, 1) := by decide +kernel
theorem dX1_store_17 : decode cX1_store 17 = .ok (.ireturn, 1) := by decide +kernel
set_option maxRecDepth 20000 in
theorem ggX1_isDirty_X1_isAddress : GoodIn wsX1_isDirty wsX1_isAddress := goodIn_r _ [5] (by decide +kernel) (by decide +kernel)
set_option maxRecDepth 20000 in
theorem gX1_isDirty_X1_isAddress : GoodIn wsX1_isDirty (va_wsS RX1 67 yX1_isAddress wsX1_isAddress) := goodIn_app (goodIn_of _ (by decide +kernel)) ggX1_isDirty_X1_isAddress
theorem dX1_isDirty_0 : decode cX1_isDirty 0 = .ok (.iload_n 1, 1) := by decide +kernel
theorem dX1_isDirty_1 : decode cX1_isDirty 1 = .ok (.invokestatic 67, 3) := by decide +kernel
theorem dX1_isDirty_4 : decode cX1_isDirty 4 = .ok (.ifCond .eq 16, 3) := by decide +kernel
theorem dX1_isDirty_7 : decode cX1_isDirty 7 = .ok (.aload_n 0, 1) := by decide +kernel
theorem dX1_isDirty_8 : decode cX1_isDirty 8 = .ok (.getfield 29, 3) := by decide +kernel
theorem dX1_isDirty_11 : decode cX1_isDirty 11 = .ok (.iload_n 1, 1) := by decide +kernel
theorem dX1_isDirty_12 : decode cX1_isDirty 12 = .ok (.baload, 1) := by decide +kernel
theorem dX1_isDirty_13 : decode cX1_isDirty 13 = .ok (.ifCond .eq 7, 3) := by decide +kernel
theorem dX1_isDirty_16 : decode cX1_isDirty 16 = .ok (.iconst 1, 1) := by decide +kernel
theorem dX1_isDirty_17 : decode cX1_isDirty 17 = .ok (.goto 4, 3) := by decide +kernel
theorem dX1_isDirty_20 : decode cX1_isDirty 20 = .ok (.iconst 0, 1) := by decide +kernel
theorem dX1_isDirty_21 : decode cX1_isDirty 21 = .ok (.ireturn, 1) := by decide +kernel
theorem dX1_gone_0 : decode cX1_gone 0 = .ok (.aload_n 0, 1) := by decide +kernel
theorem dX1_gone_1 : decode cX1_gone 1 = .ok (.getfield 64, 3) := by decide +kernel
theorem dX1_gone_4 : decode cX1_gone 4 = .ok (.ireturn, 1) := by decide +kernel
theorem dX1_isAddress_0 : decode cX1_isAddress 0 = .ok (.iload_n 0, 1) := by decide +kernel
theorem dX1_isAddress_1 : decode cX1_isAddress 1 = .ok (.ifCond .lt 13, 3) := by decide +kernel
theorem dX1_isAddress_4 : decode cX1_isAddress 4 = .ok (.iload_n 0, 1) := by decide +kernel
theorem dX1_isAddress_5 : decode cX1_isAddress 5 = .ok (.bipush 64, 2) := by decide +kernel
theorem dX1_isAddress_7 : decode cX1_isAddress 7 = .ok (.if_icmp .ge 7, 3) := by decide +kernel
theorem dX1_isAddress_10 : decode cX1_isAddress 10 = .ok (.iconst 1, 1) := by decide +kernel
theorem dX1_isAddress_11 : decode cX1_isAddress 11 = .ok (.goto 4, 3) := by decide +kernel
theorem dX1_isAddress_14 : decode cX1_isAddress 14 = .ok (.iconst 0, 1) := by decide +kernel
theorem dX1_isAddress_15 : decode cX1_isAddress 15 = .ok (.ireturn, 1) := by decide +kernel
theorem dX1_isList_0 : decode cX1_isList 0 = .ok (.iload_n 0, 1) := by decide +kernel
theorem dX1_isList_1 : decode cX1_isList 1 = .ok (.iconst 1, 1) := by decide +kernel
theorem dX1_isList_2 : decode cX1_isList 2 = .ok (.if_icmp .lt 12, 3) := by decide +kernel
theorem dX1_isList_5 : decode cX1_isList 5 = .ok (.iload_n 0, 1) := by decide +kernel
theorem dX1_isList_6 : decode cX1_isList 6 = .ok (.iconst 4, 1) := by decide +kernel
theorem dX1_isList_7 : decode cX1_isList 7 = .ok (.if_icmp .gt 7, 3) := by decide +kernel
theorem dX1_isList_10 : decode cX1_isList 10 = .ok (.iconst 1, 1) := by decide +kernel
theorem dX1_isList_11 : decode cX1_isList 11 = .ok (.goto 4, 3) := by decide +kernel
theorem dX1_isList_14 : decode cX1_isList 14 = .ok (.iconst 0, 1) := by decide +kernel
theorem dX1_isList_15 : decode cX1_isList 15 = .ok (.ireturn, 1) := by decide +kernel
theorem dX1_listNumbered_0 : decode cX1_listNumbered 0 = .ok (.iload_n 1, 1) := by decide +kernel
theorem dX1_listNumbered_1 : decode cX1_listNumbered 1 = .ok (.tableswitch 42 1 3 #[27, 32, 37], 27) := by decide +kernel
theorem dX1_listNumbered_28 : decode cX1_listNumbered 28 = .ok (.aload_n 0, 1) := by decide +kernel
theorem dX1_listNumbered_29 : decode cX1_listNumbered 29 = .ok (.getfield 10, 3) := by decide +kernel
theorem dX1_listNumbered_32 : decode cX1_listNumbered 32 = .ok (.areturn, 1) := by decide +kernel
theorem dX1_listNumbered_33 : decode cX1_listNumbered 33 = .ok (.aload_n 0, 1) := by decide +kernel
theorem dX1_listNumbered_34 : decode cX1_listNumbered 34 = .ok (.getfield 16, 3) := by decide +kernel
theorem dX1_listNumbered_37 : decode cX1_listNumbered 37 = .ok (.areturn, 1) := by decide +kernel
theorem dX1_listNumbered_38 : decode cX1_listNumbered 38 = .ok (.aload_n 0, 1) := by decide +kernel
theorem dX1_listNumbered_39 : decode cX1_listNumbered 39 = .ok (.getfield 19, 3) := by decide +kernel
theorem dX1_listNumbered_42 : decode cX1_listNumbered 42 = .ok (.areturn, 1) := by decide +kernel
theorem dX1_listNumbered_43 : decode cX1_listNumbered 43 = .ok (.aload_n 0, 1) := by decide +kernel
theorem dX1_listNumbered_44 : decode cX1_listNumbered 44 = .ok (.getfield 22, 3) := by decide +kernel
theorem dX1_listNumbered_47 : decode cX1_listNumbered 47 = .ok (.areturn, 1) := by decide +kernel
set_option maxRecDepth 20000 in
theorem ggX1_request_X1_whichList : GoodIn wsX1_request wsX1_whichList := goodIn_r _ [8, 9, 10, 11, 7, 12, 3, 13, 14, 15, 16, 17, 18, 19, 20, 21, 22, 23, 24, 25, 26, 108, 109, 110, 111, 112, 113, 114, 115, 116, 117, 118, 119, 120, 121] (by decide +kernel) (by decide +kernel)
set_option maxRecDepth 20000 in
theorem gX1_request_X1_whichList : GoodIn wsX1_request (wsV RX1 96 RX1 yX1_whichList wsX1_whichList) := goodIn_app (goodIn_of _ (by decide +kernel)) ggX1_request_X1_whichList
set_option maxRecDepth 20000 in
theorem ggX1_request_X1_moveToCameAgain : GoodIn wsX1_request wsX1_moveToCameAgain := goodIn_r _ [30, 13, 9, 10, 11, 7, 12, 3, 14, 15, 31, 32, 33, 19, 34, 25, 26, 35, 36, 37, 38, 21, 22, 23, 24, 39, 40, 41, 42, 43, 44, 108, 109, 110, 111, 112, 113, 114, 115, 116, 117, 118, 119, 120, 121] (by decide +kernel) (by decide +kernel)
set_option maxRecDepth 20000 in
theorem gX1_request_X1_moveToCameAgain : GoodIn wsX1_request (wsV RX1 99 RX1 yX1_moveToCameAgain wsX1_moveToCameAgain) := goodIn_app (goodIn_of _ (by decide +kernel)) ggX1_request_X1_moveToCameAgain
set_option maxRecDepth 20000 in
theorem ggX1_request_X1_makeRoomForUnknown : GoodIn wsX1_request wsX1_makeRoomForUnknown := goodIn_r _ [48, 3, 14, 13, 15, 49, 50, 51, 52, 19, 53, 25, 54, 55, 56, 57, 58, 59, 60, 61, 26, 62, 63, 64, 7, 65, 66, 67, 68, 43, 44, 69, 70, 71, 72, 73, 74, 75, 76, 77, 78, 79, 80, 32, 33, 34, 35, 36, 37, 38, 21, 22, 23, 24, 81, 82, 83, 84, 85, 16, 17, 18, 20, 86, 87, 88, 89, 31, 39, 40, 41, 42, 108, 109, 110, 111, 112, 113, 114, 115, 116, 117, 118, 119, 120, 121] (by decide +kernel) (by decide +kernel)
set_option maxRecDepth 20000 in
theorem gX1_request_X1_makeRoomForUnknown : GoodIn wsX1_request (wsV RX1 103 RX1 yX1_makeRoomForUnknown wsX1_makeRoomForUnknown) := goodIn_app (goodIn_of _ (by decide +kernel)) ggX1_request_X1_makeRoomForUnknown
set_option maxRecDepth 20000 in
theorem ggX1_request_X0_addNewest : GoodIn wsX1_request wsX0_addNewest := goodIn_r _ [42, 25, 26, 43, 7, 44, 120, 121] (by decide +kernel) (by decide +kernel)
set_option maxRecDepth 20000 in
theorem gX1_request_X0_addNewest : GoodIn wsX1_request (wsV RX1 106 RX0 yX0_addNewest wsX0_addNewest) := goodIn_app (goodIn_of _ (by decide +kernel)) ggX1_request_X0_addNewest
set_option maxRecDepth 20000 in
theorem ggX1_request_X1_moveTarget : GoodIn wsX1_request wsX1_moveTarget := goodIn_r _ [93, 15, 14, 49, 85, 94, 95, 96, 97, 98, 99, 100, 50, 51, 52, 19, 53, 25, 101, 102, 7, 103, 108, 109, 110, 111, 112, 113, 114, 115, 116, 117, 118, 119, 120, 121] (by decide +kernel) (by decide +kernel)
set_option maxRecDepth 20000 in
theorem gX1_request_X1_moveTarget : GoodIn wsX1_request (wsV RX1 109 RX1 yX1_moveTarget wsX1_moveTarget) := goodIn_app (goodIn_of _ (by decide +kernel)) ggX1_request_X1_moveTarget
set_option maxRecDepth 20000 in
theorem ggX1_request_X1_makeRoom : GoodIn wsX1_request wsX1_makeRoom := goodIn_r _ [84, 3, 85, 15, 14, 13, 50, 51, 52, 19, 53, 25, 16, 17, 18, 20, 21, 22, 23, 24, 26, 86, 87, 88, 7, 89, 54, 55, 56, 57, 58, 59, 60, 61, 62, 63, 64, 65, 66, 67, 68, 43, 44, 69, 70, 71, 72, 73, 74, 31, 32, 33, 34, 35, 36, 37, 38, 39, 40, 41, 42, 108, 109, 110, 111, 112, 113, 114, 115, 116, 117, 118, 119, 120, 121] (by decide +kernel) (by decide +kernel)
set_option maxRecDepth 20000 in
theorem gX1_request_X1_makeRoom : GoodIn wsX1_request (wsV RX1 112 RX1 yX1_makeRoom wsX1_makeRoom) := goodIn_app (goodIn_of _ (by decide +kernel)) ggX1_request_X1_makeRoom
set_option maxRecDepth 20000 in
theorem ggX1_request_X1_bringPage : GoodIn wsX1_request wsX1_bringPage := goodIn_r _ [107, 74, 73, 66, 108, 109, 110, 111, 112, 113, 114, 115, 116, 117, 118, 119] (by decide +kernel) (by decide +kernel)
set_option maxRecDepth 20000 in
theorem gX1_request_X1_bringPage : GoodIn wsX1_request (wsV RX1 115 RX1 yX1_bringPage wsX1_bringPage) := goodIn_app (goodIn_of _ (by decide +kernel)) ggX1_request_X1_bringPage
theorem dX1_request_0 : decode cX1_request 0 = .ok (.aload_n 0, 1) := by decide +kernel
theorem dX1_request_1 : decode cX1_request 1 = .ok (.iload_n 1, 1) := by decide +kernel
theorem dX1_request_2 : decode cX1_request 2 = .ok (.invokevirtual 96, 3) := by decide +kernel
theorem dX1_request_5 : decode cX1_request 5 = .ok (.istore_n 2, 1) := by decide +kernel
theorem dX1_request_6 : decode cX1_request 6 = .ok (.iload_n 2, 1) := by decide +kernel
theorem dX1_request_7 : decode cX1_request 7 = .ok (.iconst 1, 1) := by decide +kernel
theorem dX1_request_8 : decode cX1_request 8 = .ok (.if_icmp .eq 8, 3) := by decide +kernel
theorem dX1_request_11 : decode cX1_request 11 = .ok (.iload_n 2, 1) := by decide +kernel
theorem dX1_request_12 : decode cX1_request 12 = .ok (.iconst 2, 1) := by decide +kernel
theorem dX1_request_13 : decode cX1_request 13 = .ok (.if_icmp .ne 20, 3) := by decide +kernel
theorem dX1_request_16 : decode cX1_request 16 = .ok (.aload_n 0, 1) := by decide +kernel
theorem dX1_request_17 : decode cX1_request 17 = .ok (.dup, 1) := by decide +kernel
theorem dX1_request_18 : decode cX1_request 18 = .ok (.getfield 58, 3) := by decide +kernel
theorem dX1_request_21 : decode cX1_request 21 = .ok (.iconst 1, 1) := by decide +kernel
theorem dX1_request_22 : decode cX1_request 22 = .ok (.iadd, 1) := by decide +kernel
theorem dX1_request_23 : decode cX1_request 23 = .ok (.putfield 58, 3) := by decide +kernel
theorem dX1_request_26 : decode cX1_request 26 = .ok (.aload_n 0, 1) := by decide +kernel
theorem dX1_request_27 : decode cX1_request 27 = .ok (.iload_n 1, 1) := by decide +kernel
theorem dX1_request_28 : decode cX1_request 28 = .ok (.iload_n 2, 1) := by decide +kernel
theorem dX1_request_29 : decode cX1_request 29 = .ok (.invokevirtual 99, 3) := by decide +kernel
theorem dX1_request_32 : decode cX1_request 32 = .ok (.return_, 1) := by decide +kernel
theorem dX1_request_33 : decode cX1_request 33 = .ok (.aload_n 0, 1) := by decide +kernel
theorem dX1_request_34 : decode cX1_request 34 = .ok (.dup, 1) := by decide +kernel
theorem dX1_request_35 : decode cX1_request 35 = .ok (.getfield 61, 3) := by decide +kernel
theorem dX1_request_38 : decode cX1_request 38 = .ok (.iconst 1, 1) := by decide +kernel
theorem dX1_request_39 : decode cX1_request 39 = .ok (.iadd, 1) := by decide +kernel
theorem dX1_request_40 : decode cX1_request 40 = .ok (.putfield 61, 3) := by decide +kernel
theorem dX1_request_43 : decode cX1_request 43 = .ok (.iload_n 2, 1) := by decide +kernel
theorem dX1_request_44 : decode cX1_request 44 = .ok (.ifCond .ne 19, 3) := by decide +kernel
theorem dX1_request_47 : decode cX1_request 47 = .ok (.aload_n 0, 1) := by decide +kernel
theorem dX1_request_48 : decode cX1_request 48 = .ok (.iload_n 1, 1) := by decide +kernel
theorem dX1_request_49 : decode cX1_request 49 = .ok (.invokevirtual 103, 3) := by decide +kernel
theorem dX1_request_52 : decode cX1_request 52 = .ok (.aload_n 0, 1) := by decide +kernel
theorem dX1_request_53 : decode cX1_request 53 = .ok (.getfield 10, 3) := by decide +kernel
theorem dX1_request_56 : decode cX1_request 56 = .ok (.iload_n 1, 1) := by decide +kernel
theorem dX1_request_57 : decode cX1_request 57 = .ok (.invokevirtual 106, 3) := by decide +kernel
theorem dX1_request_60 : decode cX1_request 60 = .ok (.goto 19, 3) := by decide +kernel
theorem dX1_request_63 : decode cX1_request 63 = .ok (.aload_n 0, 1) := by decide +kernel
theorem dX1_request_64 : decode cX1_request 64 = .ok (.iload_n 2, 1) := by decide +kernel
theorem dX1_request_65 : decode cX1_request 65 = .ok (.invokevirtual 109, 3) := by decide +kernel
theorem dX1_request_68 : decode cX1_request 68 = .ok (.aload_n 0, 1) := by decide +kernel
theorem dX1_request_69 : decode cX1_request 69 = .ok (.iload_n 1, 1) := by decide +kernel
theorem dX1_request_70 : decode cX1_request 70 = .ok (.invokevirtual 112, 3) := by decide +kernel
theorem dX1_request_73 : decode cX1_request 73 = .ok (.aload_n 0, 1) := by decide +kernel
theorem dX1_request_74 : decode cX1_request 74 = .ok (.iload_n 1, 1) := by decide +kernel
theorem dX1_request_75 : decode cX1_request 75 = .ok (.iload_n 2, 1) := by decide +kernel
theorem dX1_request_76 : decode cX1_request 76 = .ok (.invokevirtual 99, 3) := by decide +kernel
theorem dX1_request_79 : decode cX1_request 79 = .ok (.aload_n 0, 1) := by decide +kernel
theorem dX1_request_80 : decode cX1_request 80 = .ok (.iload_n 1, 1) := by decide +kernel
theorem dX1_request_81 : decode cX1_request 81 = .ok (.invokevirtual 115, 3) := by decide +kernel
theorem dX1_request_84 : decode cX1_request 84 = .ok (.return_, 1) := by decide +kernel
set_option maxRecDepth 20000 in
theorem ggX1_moveToCameAgain_X1_listNumbered : GoodIn wsX1_moveToCameAgain wsX1_listNumbered := goodIn_r _ [6, 7, 1, 8, 9, 31, 32, 33, 34, 35, 36, 37, 38, 39, 40, 41, 42] (by decide +kernel) (by decide +kernel)
set_option maxRecDepth 20000 in
theorem gX1_moveToCameAgain_X1_listNumbered : GoodIn wsX1_moveToCameAgain (wsV RX1 78 RX1 yX1_listNumbered wsX1_listNumbered) := goodIn_app (goodIn_of _ (by decide +kernel)) ggX1_moveToCameAgain_X1_listNumbered
set_option maxRecDepth 20000 in
theorem ggX1_moveToCameAgain_X0_remove : GoodIn wsX1_moveToCameAgain wsX0_remove := goodIn_r _ [14, 15, 16, 17, 18, 19, 20, 21, 22, 23, 13, 24, 43, 44] (by decide +kernel) (by decide +kernel)
set_option maxRecDepth 20000 in
theorem gX1_moveToCameAgain_X0_remove : GoodIn wsX1_moveToCameAgain (wsV RX1 118 RX0 yX0_remove wsX0_remove) := goodIn_app (goodIn_of _ (by decide +kernel)) ggX1_moveToCameAgain_X0_remove
set_option maxRecDepth 20000 in
theorem ggX1_moveToCameAgain_X0_addNewest : GoodIn wsX1_moveToCameAgain wsX0_addNewest := goodIn_r _ [28, 15, 16, 29, 5, 30, 43, 44] (by decide +kernel) (by decide +kernel)
set_option maxRecDepth 20000 in
theorem gX1_moveToCameAgain_X0_addNewest : GoodIn wsX1_moveToCameAgain (wsV RX1 106 RX0 yX0_addNewest wsX0_addNewest) := goodIn_app (goodIn_of _ (by decide +kernel)) ggX1_moveToCameAgain_X0_addNewest
theorem dX1_moveToCameAgain_0 : decode cX1_moveToCameAgain 0 = .ok (.aload_n 0, 1) := by decide +kernel
theorem dX1_moveToCameAgain_1 : decode cX1_moveToCameAgain 1 = .ok (.iload_n 2, 1) := by decide +kernel
theorem dX1_moveToCameAgain_2 : decode cX1_moveToCameAgain 2 = .ok (.invokevirtual 78, 3) := by decide +kernel
theorem dX1_moveToCameAgain_5 : decode cX1_moveToCameAgain 5 = .ok (.iload_n 1, 1) := by decide +kernel
theorem dX1_moveToCameAgain_6 : decode cX1_moveToCameAgain 6 = .ok (.invokevirtual 118, 3) := by decide +kernel
theorem dX1_moveToCameAgain_9 : decode cX1_moveToCameAgain 9 = .ok (.aload_n 0, 1) := by decide +kernel
theorem dX1_moveToCameAgain_10 : decode cX1_moveToCameAgain 10 = .ok (.getfield 16, 3) := by decide +kernel
theorem dX1_moveToCameAgain_13 : decode cX1_moveToCameAgain 13 = .ok (.iload_n 1, 1) := by decide +kernel
theorem dX1_moveToCameAgain_14 : decode cX1_moveToCameAgain 14 = .ok (.invokevirtual 106, 3) := by decide +kernel
theorem dX1_moveToCameAgain_17 : decode cX1_moveToCameAgain 17 = .ok (.return_, 1) := by decide +kernel
theorem dX1_bringPage_0 : decode cX1_bringPage 0 = .ok (.aload_n 0, 1) := by decide +kernel
theorem dX1_bringPage_1 : decode cX1_bringPage 1 = .ok (.getfield 25, 3) := by decide +kernel
theorem dX1_bringPage_4 : decode cX1_bringPage 4 = .ok (.iload_n 1, 1) := by decide +kernel
theorem dX1_bringPage_5 : decode cX1_bringPage 5 = .ok (.aload_n 0, 1) := by decide +kernel
theorem dX1_bringPage_6 : decode cX1_bringPage 6 = .ok (.getfield 33, 3) := by decide +kernel
theorem dX1_bringPage_9 : decode cX1_bringPage 9 = .ok (.iload_n 1, 1) := by decide +kernel
theorem dX1_bringPage_10 : decode cX1_bringPage 10 = .ok (.iaload, 1) := by decide +kernel
theorem dX1_bringPage_11 : decode cX1_bringPage 11 = .ok (.iastore, 1) := by decide +kernel
theorem dX1_bringPage_12 : decode cX1_bringPage 12 = .ok (.aload_n 0, 1) := by decide +kernel
theorem dX1_bringPage_13 : decode cX1_bringPage 13 = .ok (.getfield 29, 3) := by decide +kernel
theorem dX1_bringPage_16 : decode cX1_bringPage 16 = .ok (.iload_n 1, 1) := by decide +kernel
theorem dX1_bringPage_17 : decode cX1_bringPage 17 = .ok (.iconst 0, 1) := by decide +kernel
theorem dX1_bringPage_18 : decode cX1_bringPage 18 = .ok (.bastore, 1) := by decide +kernel
theorem dX1_bringPage_19 : decode cX1_bringPage 19 = .ok (.return_, 1) := by decide +kernel
set_option maxRecDepth 20000 in
theorem ggX1_moveTarget_X0_size : GoodIn wsX1_moveTarget wsX0_size := goodIn_r _ [16, 17, 34, 35] (by decide +kernel) (by decide +kernel)
set_option maxRecDepth 20000 in
theorem gX1_moveTarget_X0_size : GoodIn wsX1_moveTarget (wsV RX1 92 RX0 yX0_size wsX0_size) := goodIn_app (goodIn_of _ (by decide +kernel)) ggX1_moveTarget_X0_size
set_option maxRecDepth 20000 in
theorem ggX1_moveTarget_X1_stepOf : GoodIn wsX1_moveTarget wsX1_stepOf := goodIn_r _ [21, 9, 10, 7, 11] (by decide +kernel) (by decide +kernel)
set_option maxRecDepth 20000 in
theorem gX1_moveTarget_X1_stepOf : GoodIn wsX1_moveTarget (va_wsS RX1 121 yX1_stepOf wsX1_stepOf) := goodIn_app (goodIn_of _ (by decide +kernel)) ggX1_moveTarget_X1_stepOf
theorem dX1_moveTarget_0 : decode cX1_moveTarget 0 = .ok (.iload_n 1, 1) := by decide +kernel
theorem dX1_moveTarget_1 : decode cX1_moveTarget 1 = .ok (.iconst 3, 1) := by decide +kernel
theorem dX1_moveTarget_2 : decode cX1_moveTarget 2 = .ok (.if_icmp .ne 41, 3) := by decide +kernel
theorem dX1_moveTarget_5 : decode cX1_moveTarget 5 = .ok (.aload_n 0, 1) := by decide +kernel
theorem dX1_moveTarget_6 : decode cX1_moveTarget 6 = .ok (.getfield 22, 3) := by decide +kernel
theorem dX1_moveTarget_9 : decode cX1_moveTarget 9 = .ok (.invokevirtual 92, 3) := by decide +kernel
theorem dX1_moveTarget_12 : decode cX1_moveTarget 12 = .ok (.aload_n 0, 1) := by decide +kernel
theorem dX1_moveTarget_13 : decode cX1_moveTarget 13 = .ok (.getfield 19, 3) := by decide +kernel
theorem dX1_moveTarget_16 : decode cX1_moveTarget 16 = .ok (.invokevirtual 92, 3) := by decide +kernel
theorem dX1_moveTarget_19 : decode cX1_moveTarget 19 = .ok (.invokestatic 121, 3) := by decide +kernel
theorem dX1_moveTarget_22 : decode cX1_moveTarget 22 = .ok (.istore_n 2, 1) := by decide +kernel
theorem dX1_moveTarget_23 : decode cX1_moveTarget 23 = .ok (.aload_n 0, 1) := by decide +kernel
theorem dX1_moveTarget_24 : decode cX1_moveTarget 24 = .ok (.aload_n 0, 1) := by decide +kernel
theorem dX1_moveTarget_25 : decode cX1_moveTarget 25 = .ok (.getfield 42, 3) := by decide +kernel
theorem dX1_moveTarget_28 : decode cX1_moveTarget 28 = .ok (.aload_n 0, 1) := by decide +kernel
theorem dX1_moveTarget_29 : decode cX1_moveTarget 29 = .ok (.getfield 55, 3) := by decide +kernel
theorem dX1_moveTarget_32 : decode cX1_moveTarget 32 = .ok (.iload_n 2, 1) := by decide +kernel
theorem dX1_moveTarget_33 : decode cX1_moveTarget 33 = .ok (.iadd, 1) := by decide +kernel
theorem dX1_moveTarget_34 : decode cX1_moveTarget 34 = .ok (.invokestatic 124, 3) := by decide +kernel
theorem dX1_moveTarget_37 : decode cX1_moveTarget 37 = .ok (.putfield 55, 3) := by decide +kernel
theorem dX1_moveTarget_40 : decode cX1_moveTarget 40 = .ok (.goto 35, 3) := by decide +kernel
theorem dX1_moveTarget_43 : decode cX1_moveTarget 43 = .ok (.aload_n 0, 1) := by decide +kernel
theorem dX1_moveTarget_44 : decode cX1_moveTarget 44 = .ok (.getfield 19, 3) := by decide +kernel
theorem dX1_moveTarget_47 : decode cX1_moveTarget 47 = .ok (.invokevirtual 92, 3) := by decide +kernel
theorem dX1_moveTarget_50 : decode cX1_moveTarget 50 = .ok (.aload_n 0, 1) := by decide +kernel
theorem dX1_moveTarget_51 : decode cX1_moveTarget 51 = .ok (.getfield 22, 3) := by decide +kernel
theorem dX1_moveTarget_54 : decode cX1_moveTarget 54 = .ok (.invokevirtual 92, 3) := by decide +kernel
theorem dX1_moveTarget_57 : decode cX1_moveTarget 57 = .ok (.invokestatic 121, 3) := by decide +kernel
theorem dX1_moveTarget_60 : decode cX1_moveTarget 60 = .ok (.istore_n 2, 1) := by decide +kernel
theorem dX1_moveTarget_61 : decode cX1_moveTarget 61 = .ok (.aload_n 0, 1) := by decide +kernel
theorem dX1_moveTarget_62 : decode cX1_moveTarget 62 = .ok (.iconst 0, 1) := by decide +kernel
theorem dX1_moveTarget_63 : decode cX1_moveTarget 63 = .ok (.aload_n 0, 1) := by decide +kernel
theorem dX1_moveTarget_64 : decode cX1_moveTarget 64 = .ok (.getfield 55, 3) := by decide +kernel
theorem dX1_moveTarget_67 : decode cX1_moveTarget 67 = .ok (.iload_n 2, 1) := by decide +kernel
theorem dX1_moveTarget_68 : decode cX1_moveTarget 68 = .ok (.isub, 1) := by decide +kernel
theorem dX1_moveTarget_69 : decode cX1_moveTarget 69 = .ok (.invokestatic 127, 3) := by decide +kernel
theorem dX1_moveTarget_72 : decode cX1_moveTarget 72 = .ok (.putfield 55, 3) := by decide +kernel
theorem dX1_moveTarget_75 : decode cX1_moveTarget 75 = .ok (.return_, 1) := by decide +kernel
theorem dX1_stepOf_0 : decode cX1_stepOf 0 = .ok (.iload_n 1, 1) := by decide +kernel
theorem dX1_stepOf_1 : decode cX1_stepOf 1 = .ok (.ifCond .ne 7, 3) := by decide +kernel
theorem dX1_stepOf_4 : decode cX1_stepOf 4 = .ok (.iconst 1, 1) := by decide +kernel
theorem dX1_stepOf_5 : decode cX1_stepOf 5 = .ok (.goto 10, 3) := by decide +kernel
theorem dX1_stepOf_8 : decode cX1_stepOf 8 = .ok (.iconst 1, 1) := by decide +kernel
theorem dX1_stepOf_9 : decode cX1_stepOf 9 = .ok (.iload_n 0, 1) := by decide +kernel
theorem dX1_stepOf_10 : decode cX1_stepOf 10 = .ok (.iload_n 1, 1) := by decide +kernel
theorem dX1_stepOf_11 : decode cX1_stepOf 11 = .ok (.idiv, 1) := by decide +kernel
theorem dX1_stepOf_12 : decode cX1_stepOf 12 = .ok (.invokestatic 127, 3) := by decide +kernel
theorem dX1_stepOf_15 : decode cX1_stepOf 15 = .ok (.ireturn, 1) := by decide +kernel
set_option maxRecDepth 20000 in
theorem ggX1_makeRoom_X0_size : GoodIn wsX1_makeRoom wsX0_size := goodIn_r _ [10, 11, 73, 74] (by decide +kernel) (by decide +kernel)
set_option maxRecDepth 20000 in
theorem gX1_makeRoom_X0_size : GoodIn wsX1_makeRoom (wsV RX1 92 RX0 yX0_size wsX0_size) := goodIn_app (goodIn_of _ (by decide +kernel)) ggX1_makeRoom_X0_size
set_option maxRecDepth 20000 in
theorem ggX1_makeRoom_X0_has : GoodIn wsX1_makeRoom wsX0_has := goodIn_r _ [15, 16, 17, 18, 9, 19, 11, 20, 73, 74] (by decide +kernel) (by decide +kernel)
set_option maxRecDepth 20000 in
theorem gX1_makeRoom_X0_has : GoodIn wsX1_makeRoom (wsV RX1 82 RX0 yX0_has wsX0_has) := goodIn_app (goodIn_of _ (by decide +kernel)) ggX1_makeRoom_X0_has
set_option maxRecDepth 20000 in
theorem ggX1_makeRoom_X1_oldestGoes : GoodIn wsX1_makeRoom wsX1_oldestGoes := goodIn_r _ [25, 26, 27, 28, 9, 29, 11, 30, 31, 32, 33, 20, 34, 35, 36, 24, 37, 38, 39, 40, 41, 42, 43, 44, 45, 46, 47, 48, 49, 50, 51, 52, 53, 54, 55, 56, 16, 17, 18, 19, 57, 58, 59, 60, 73, 74, 61, 62, 63, 64, 65, 66, 67, 68, 69, 70, 71, 72] (by decide +kernel) (by decide +kernel)
set_option maxRecDepth 20000 in
theorem gX1_makeRoom_X1_oldestGoes : GoodIn wsX1_makeRoom (wsV RX1 130 RX1 yX1_oldestGoes wsX1_oldestGoes) := goodIn_app (goodIn_of _ (by decide +kernel)) ggX1_makeRoom_X1_oldestGoes
theorem dX1_makeRoom_0 : decode cX1_makeRoom 0 = .ok (.aload_n 0, 1) := by decide +kernel
theorem dX1_makeRoom_1 : decode cX1_makeRoom 1 = .ok (.getfield 10, 3) := by decide +kernel
theorem dX1_makeRoom_4 : decode cX1_makeRoom 4 = .ok (.invokevirtual 92, 3) := by decide +kernel
theorem dX1_makeRoom_7 : decode cX1_makeRoom 7 = .ok (.istore_n 2, 1) := by decide +kernel
theorem dX1_makeRoom_8 : decode cX1_makeRoom 8 = .ok (.iload_n 2, 1) := by decide +kernel
theorem dX1_makeRoom_9 : decode cX1_makeRoom 9 = .ok (.aload_n 0, 1) := by decide +kernel
theorem dX1_makeRoom_10 : decode cX1_makeRoom 10 = .ok (.getfield 55, 3) := by decide +kernel
theorem dX1_makeRoom_13 : decode cX1_makeRoom 13 = .ok (.if_icmp .ne 22, 3) := by decide +kernel
theorem dX1_makeRoom_16 : decode cX1_makeRoom 16 = .ok (.iload_n 2, 1) := by decide +kernel
theorem dX1_makeRoom_17 : decode cX1_makeRoom 17 = .ok (.ifCond .le 18, 3) := by decide +kernel
theorem dX1_makeRoom_20 : decode cX1_makeRoom 20 = .ok (.aload_n 0, 1) := by decide +kernel
theorem dX1_makeRoom_21 : decode cX1_makeRoom 21 = .ok (.getfield 22, 3) := by decide +kernel
theorem dX1_makeRoom_24 : decode cX1_makeRoom 24 = .ok (.iload_n 1, 1) := by decide +kernel
theorem dX1_makeRoom_25 : decode cX1_makeRoom 25 = .ok (.invokevirtual 82, 3) := by decide +kernel
theorem dX1_makeRoom_28 : decode cX1_makeRoom 28 = .ok (.ifCond .eq 7, 3) := by decide +kernel
theorem dX1_makeRoom_31 : decode cX1_makeRoom 31 = .ok (.iconst 1, 1) := by decide +kernel
theorem dX1_makeRoom_32 : decode cX1_makeRoom 32 = .ok (.goto 4, 3) := by decide +kernel
theorem dX1_makeRoom_35 : decode cX1_makeRoom 35 = .ok (.iconst 0, 1) := by decide +kernel
theorem dX1_makeRoom_36 : decode cX1_makeRoom 36 = .ok (.istore_n 3, 1) := by decide +kernel
theorem dX1_makeRoom_37 : decode cX1_makeRoom 37 = .ok (.iload_n 2, 1) := by decide +kernel
theorem dX1_makeRoom_38 : decode cX1_makeRoom 38 = .ok (.aload_n 0, 1) := by decide +kernel
theorem dX1_makeRoom_39 : decode cX1_makeRoom 39 = .ok (.getfield 55, 3) := by decide +kernel
theorem dX1_makeRoom_42 : decode cX1_makeRoom 42 = .ok (.if_icmp .gt 7, 3) := by decide +kernel
theorem dX1_makeRoom_45 : decode cX1_makeRoom 45 = .ok (.iload_n 3, 1) := by decide +kernel
theorem dX1_makeRoom_46 : decode cX1_makeRoom 46 = .ok (.ifCond .eq 18, 3) := by decide +kernel
theorem dX1_makeRoom_49 : decode cX1_makeRoom 49 = .ok (.aload_n 0, 1) := by decide +kernel
theorem dX1_makeRoom_50 : decode cX1_makeRoom 50 = .ok (.aload_n 0, 1) := by decide +kernel
theorem dX1_makeRoom_51 : decode cX1_makeRoom 51 = .ok (.getfield 10, 3) := by decide +kernel
theorem dX1_makeRoom_54 : decode cX1_makeRoom 54 = .ok (.aload_n 0, 1) := by decide +kernel
theorem dX1_makeRoom_55 : decode cX1_makeRoom 55 = .ok (.getfield 19, 3) := by decide +kernel
theorem dX1_makeRoom_58 : decode cX1_makeRoom 58 = .ok (.invokevirtual 130, 3) := by decide +kernel
theorem dX1_makeRoom_61 : decode cX1_makeRoom 61 = .ok (.goto 15, 3) := by decide +kernel
theorem dX1_makeRoom_64 : decode cX1_makeRoom 64 = .ok (.aload_n 0, 1) := by decide +kernel
theorem dX1_makeRoom_65 : decode cX1_makeRoom 65 = .ok (.aload_n 0, 1) := by decide +kernel
theorem dX1_makeRoom_66 : decode cX1_makeRoom 66 = .ok (.getfield 16, 3) := by decide +kernel
theorem dX1_makeRoom_69 : decode cX1_makeRoom 69 = .ok (.aload_n 0, 1) := by decide +kernel
theorem dX1_makeRoom_70 : decode cX1_makeRoom 70 = .ok (.getfield 22, 3) := by decide +kernel
theorem dX1_makeRoom_73 : decode cX1_makeRoom 73 = .ok (.invokevirtual 130, 3) := by decide +kernel
theorem dX1_makeRoom_76 : decode cX1_makeRoom 76 = .ok (.return_, 1) := by decide +kernel
set_option maxRecDepth 20000 in
theorem ggX1_makeRoomForUnknown_X0_size : GoodIn wsX1_makeRoomForUnknown wsX0_size := goodIn_r _ [10, 11, 84, 85] (by decide +kernel) (by decide +kernel)
set_option maxRecDepth 20000 in
theorem gX1_makeRoomForUnknown_X0_size : GoodIn wsX1_makeRoomForUnknown (wsV RX1 92 RX0 yX0_size wsX0_size) := goodIn_app (goodIn_of _ (by decide +kernel)) ggX1_makeRoomForUnknown_X0_size
set_option maxRecDepth 20000 in
theorem ggX1_makeRoomForUnknown_X0_oldest : GoodIn wsX1_makeRoomForUnknown wsX0_oldest := goodIn_r _ [15, 11, 16, 17, 18, 9, 19, 20, 84, 85] (by decide +kernel) (by decide +kernel)
set_option maxRecDepth 20000 in
theorem gX1_makeRoomForUnknown_X0_oldest : GoodIn wsX1_makeRoomForUnknown (wsV RX1 134 RX0 yX0_oldest wsX0_oldest) := goodIn_app (goodIn_of _ (by decide +kernel)) ggX1_makeRoomForUnknown_X0_oldest
set_option maxRecDepth 20000 in
theorem ggX1_makeRoomForUnknown_X1_pageGoes : GoodIn wsX1_makeRoomForUnknown wsX1_pageGoes := goodIn_r _ [25, 26, 27, 28, 29, 24, 30, 31, 32, 33, 34, 35, 36, 72, 73, 74, 75, 76, 77, 78, 79, 80, 81, 82, 83] (by decide +kernel) (by decide +kernel)
set_option maxRecDepth 20000 in
theorem gX1_makeRoomForUnknown_X1_pageGoes : GoodIn wsX1_makeRoomForUnknown (wsV RX1 137 RX1 yX1_pageGoes wsX1_pageGoes) := goodIn_app (goodIn_of _ (by decide +kernel)) ggX1_makeRoomForUnknown_X1_pageGoes
set_option maxRecDepth 20000 in
theorem ggX1_makeRoomForUnknown_X0_dropOldest : GoodIn wsX1_makeRoomForUnknown wsX0_dropOldest := goodIn_r _ [40, 41, 13, 14, 9, 15, 11, 16, 17, 18, 19, 20, 42, 43, 44, 45, 46, 47, 48, 49, 50, 51, 52, 53, 84, 85] (by decide +kernel) (by decide +kernel)
set_option maxRecDepth 20000 in
theorem gX1_makeRoomForUnknown_X0_dropOldest : GoodIn wsX1_makeRoomForUnknown (wsV RX1 140 RX0 yX0_dropOldest wsX0_dropOldest) := goodIn_app (goodIn_of _ (by decide +kernel)) ggX1_makeRoomForUnknown_X0_dropOldest
set_option maxRecDepth 20000 in
theorem ggX1_makeRoomForUnknown_X1_makeRoom : GoodIn wsX1_makeRoomForUnknown wsX1_makeRoom := goodIn_r _ [57, 1, 58, 4, 2, 3, 6, 7, 8, 9, 10, 11, 59, 60, 61, 62, 50, 51, 52, 53, 20, 63, 64, 65, 24, 66, 12, 13, 14, 15, 16, 17, 18, 19, 21, 22, 23, 25, 26, 27, 28, 29, 30, 31, 32, 33, 34, 35, 36, 67, 43, 44, 45, 46, 47, 48, 49, 68, 69, 70, 71, 72, 73, 74, 75, 76, 77, 78, 79, 80, 81, 82, 83, 84, 85] (by decide +kernel) (by decide +kernel)
set_option maxRecDepth 20000 in
theorem gX1_makeRoomForUnknown_X1_makeRoom : GoodIn wsX1_makeRoomForUnknown (wsV RX1 112 RX1 yX1_makeRoom wsX1_makeRoom) := goodIn_app (goodIn_of _ (by decide +kernel)) ggX1_makeRoomForUnknown_X1_makeRoom
theorem dX1_makeRoomForUnknown_0 : decode cX1_makeRoomForUnknown 0 = .ok (.aload_n 0, 1) := by decide +kernel
theorem dX1_makeRoomForUnknown_1 : decode cX1_makeRoomForUnknown 1 = .ok (.getfield 10, 3) := by decide +kernel
theorem dX1_makeRoomForUnknown_4 : decode cX1_makeRoomForUnknown 4 = .ok (.invokevirtual 92, 3) := by decide +kernel
theorem dX1_makeRoomForUnknown_7 : decode cX1_makeRoomForUnknown 7 = .ok (.aload_n 0, 1) := by decide +kernel
theorem dX1_makeRoomForUnknown_8 : decode cX1_makeRoomForUnknown 8 = .ok (.getfield 19, 3) := by decide +kernel
theorem dX1_makeRoomForUnknown_11 : decode cX1_makeRoomForUnknown 11 = .ok (.invokevirtual 92, 3) := by decide +kernel
theorem dX1_makeRoomForUnknown_14 : decode cX1_makeRoomForUnknown 14 = .ok (.iadd, 1) := by decide +kernel
theorem dX1_makeRoomForUnknown_15 : decode cX1_makeRoomForUnknown 15 = .ok (.istore_n 2, 1) := by decide +kernel
theorem dX1_makeRoomForUnknown_16 : decode cX1_makeRoomForUnknown 16 = .ok (.iload_n 2, 1) := by decide +kernel
theorem dX1_makeRoomForUnknown_17 : decode cX1_makeRoomForUnknown 17 = .ok (.aload_n 0, 1) := by decide +kernel
theorem dX1_makeRoomForUnknown_18 : decode cX1_makeRoomForUnknown 18 = .ok (.getfield 16, 3) := by decide +kernel
theorem dX1_makeRoomForUnknown_21 : decode cX1_makeRoomForUnknown 21 = .ok (.invokevirtual 92, 3) := by decide +kernel
theorem dX1_makeRoomForUnknown_24 : decode cX1_makeRoomForUnknown 24 = .ok (.iadd, 1) := by decide +kernel
theorem dX1_makeRoomForUnknown_25 : decode cX1_makeRoomForUnknown 25 = .ok (.aload_n 0, 1) := by decide +kernel
theorem dX1_makeRoomForUnknown_26 : decode cX1_makeRoomForUnknown 26 = .ok (.getfield 22, 3) := by decide +kernel
theorem dX1_makeRoomForUnknown_29 : decode cX1_makeRoomForUnknown 29 = .ok (.invokevirtual 92, 3) := by decide +kernel
theorem dX1_makeRoomForUnknown_32 : decode cX1_makeRoomForUnknown 32 = .ok (.iadd, 1) := by decide +kernel
theorem dX1_makeRoomForUnknown_33 : decode cX1_makeRoomForUnknown 33 = .ok (.istore_n 3, 1) := by decide +kernel
theorem dX1_makeRoomForUnknown_34 : decode cX1_makeRoomForUnknown 34 = .ok (.iload_n 2, 1) := by decide +kernel
theorem dX1_makeRoomForUnknown_35 : decode cX1_makeRoomForUnknown 35 = .ok (.aload_n 0, 1) := by decide +kernel
theorem dX1_makeRoomForUnknown_36 : decode cX1_makeRoomForUnknown 36 = .ok (.getfield 42, 3) := by decide +kernel
theorem dX1_makeRoomForUnknown_39 : decode cX1_makeRoomForUnknown 39 = .ok (.if_icmp .ne 38, 3) := by decide +kernel
theorem dX1_makeRoomForUnknown_42 : decode cX1_makeRoomForUnknown 42 = .ok (.aload_n 0, 1) := by decide +kernel
theorem dX1_makeRoomForUnknown_43 : decode cX1_makeRoomForUnknown 43 = .ok (.getfield 10, 3) := by decide +kernel
theorem dX1_makeRoomForUnknown_46 : decode cX1_makeRoomForUnknown 46 = .ok (.invokevirtual 92, 3) := by decide +kernel
theorem dX1_makeRoomForUnknown_49 : decode cX1_makeRoomForUnknown 49 = .ok (.aload_n 0, 1) := by decide +kernel
theorem dX1_makeRoomForUnknown_50 : decode cX1_makeRoomForUnknown 50 = .ok (.getfield 42, 3) := by decide +kernel
theorem dX1_makeRoomForUnknown_53 : decode cX1_makeRoomForUnknown 53 = .ok (.if_icmp .ne 24, 3) := by decide +kernel
theorem dX1_makeRoomForUnknown_56 : decode cX1_makeRoomForUnknown 56 = .ok (.aload_n 0, 1) := by decide +kernel
theorem dX1_makeRoomForUnknown_57 : decode cX1_makeRoomForUnknown 57 = .ok (.aload_n 0, 1) := by decide +kernel
theorem dX1_makeRoomForUnknown_58 : decode cX1_makeRoomForUnknown 58 = .ok (.getfield 10, 3) := by decide +kernel
theorem dX1_makeRoomForUnknown_61 : decode cX1_makeRoomForUnknown 61 = .ok (.invokevirtual 134, 3) := by decide +kernel
theorem dX1_makeRoomForUnknown_64 : decode cX1_makeRoomForUnknown 64 = .ok (.invokevirtual 137, 3) := by decide +kernel
theorem dX1_makeRoomForUnknown_67 : decode cX1_makeRoomForUnknown 67 = .ok (.aload_n 0, 1) := by decide +kernel
theorem dX1_makeRoomForUnknown_68 : decode cX1_makeRoomForUnknown 68 = .ok (.getfield 10, 3) := by decide +kernel
theorem dX1_makeRoomForUnknown_71 : decode cX1_makeRoomForUnknown 71 = .ok (.invokevirtual 140, 3) := by decide +kernel
theorem dX1_makeRoomForUnknown_74 : decode cX1_makeRoomForUnknown 74 = .ok (.goto 56, 3) := by decide +kernel
theorem dX1_makeRoomForUnknown_77 : decode cX1_makeRoomForUnknown 77 = .ok (.iload_n 2, 1) := by decide +kernel
theorem dX1_makeRoomForUnknown_78 : decode cX1_makeRoomForUnknown 78 = .ok (.aload_n 0, 1) := by decide +kernel
theorem dX1_makeRoomForUnknown_79 : decode cX1_makeRoomForUnknown 79 = .ok (.getfield 42, 3) := by decide +kernel
theorem dX1_makeRoomForUnknown_82 : decode cX1_makeRoomForUnknown 82 = .ok (.if_icmp .ne 18, 3) := by decide +kernel
theorem dX1_makeRoomForUnknown_85 : decode cX1_makeRoomForUnknown 85 = .ok (.aload_n 0, 1) := by decide +kernel
theorem dX1_makeRoomForUnknown_86 : decode cX1_makeRoomForUnknown 86 = .ok (.getfield 19, 3) := by decide +kernel
theorem dX1_makeRoomForUnknown_89 : decode cX1_makeRoomForUnknown 89 = .ok (.invokevirtual 140, 3) := by decide +kernel
theorem dX1_makeRoomForUnknown_92 : decode cX1_makeRoomForUnknown 92 = .ok (.aload_n 0, 1) := by decide +kernel
theorem dX1_makeRoomForUnknown_93 : decode cX1_makeRoomForUnknown 93 = .ok (.iload_n 1, 1) := by decide +kernel
theorem dX1_makeRoomForUnknown_94 : decode cX1_makeRoomForUnknown 94 = .ok (.invokevirtual 112, 3) := by decide +kernel
theorem dX1_makeRoomForUnknown_97 : decode cX1_makeRoomForUnknown 97 = .ok (.goto 33, 3) := by decide +kernel
theorem dX1_makeRoomForUnknown_100 : decode cX1_makeRoomForUnknown 100 = .ok (.iload_n 3, 1) := by decide +kernel
theorem dX1_makeRoomForUnknown_101 : decode cX1_makeRoomForUnknown 101 = .ok (.aload_n 0, 1) := by decide +kernel
theorem dX1_makeRoomForUnknown_102 : decode cX1_makeRoomForUnknown 102 = .ok (.getfield 42, 3) := by decide +kernel
theorem dX1_makeRoomForUnknown_105 : decode cX1_makeRoomForUnknown 105 = .ok (.if_icmp .lt 25, 3) := by decide +kernel
theorem dX1_makeRoomForUnknown_108 : decode cX1_makeRoomForUnknown 108 = .ok (.iload_n 3, 1) := by decide +kernel
theorem dX1_makeRoomForUnknown_109 : decode cX1_makeRoomForUnknown 109 = .ok (.iconst 2, 1) := by decide +kernel
theorem dX1_makeRoomForUnknown_110 : decode cX1_makeRoomForUnknown 110 = .ok (.aload_n 0, 1) := by decide +kernel
theorem dX1_makeRoomForUnknown_111 : decode cX1_makeRoomForUnknown 111 = .ok (.getfield 42, 3) := by decide +kernel
theorem dX1_makeRoomForUnknown_114 : decode cX1_makeRoomForUnknown 114 = .ok (.imul, 1) := by decide +kernel
theorem dX1_makeRoomForUnknown_115 : decode cX1_makeRoomForUnknown 115 = .ok (.if_icmp .ne 10, 3) := by decide +kernel
theorem dX1_makeRoomForUnknown_118 : decode cX1_makeRoomForUnknown 118 = .ok (.aload_n 0, 1) := by decide +kernel
theorem dX1_makeRoomForUnknown_119 : decode cX1_makeRoomForUnknown 119 = .ok (.getfield 22, 3) := by decide +kernel
theorem dX1_makeRoomForUnknown_122 : decode cX1_makeRoomForUnknown 122 = .ok (.invokevirtual 140, 3) := by decide +kernel
theorem dX1_makeRoomForUnknown_125 : decode cX1_makeRoomForUnknown 125 = .ok (.aload_n 0, 1) := by decide +kernel
theorem dX1_makeRoomForUnknown_126 : decode cX1_makeRoomForUnknown 126 = .ok (.iload_n 1, 1) := by decide +kernel
theorem dX1_makeRoomForUnknown_127 : decode cX1_makeRoomForUnknown 127 = .ok (.invokevirtual 112, 3) := by decide +kernel
theorem dX1_makeRoomForUnknown_130 : decode cX1_makeRoomForUnknown 130 = .ok (.return_, 1) := by decide +kernel
set_option maxRecDepth 20000 in
theorem ggX1_oldestGoes_X0_oldest : GoodIn wsX1_oldestGoes wsX0_oldest := goodIn_r _ [5, 6, 7, 8, 9, 4, 10, 11, 44, 45] (by decide +kernel) (by decide +kernel)
set_option maxRecDepth 20000 in
theorem gX1_oldestGoes_X0_oldest : GoodIn wsX1_oldestGoes (wsV RX1 134 RX0 yX0_oldest wsX0_oldest) := goodIn_app (goodIn_of _ (by decide +kernel)) ggX1_oldestGoes_X0_oldest
set_option maxRecDepth 20000 in
theorem ggX1_oldestGoes_X1_pageGoes : GoodIn wsX1_oldestGoes wsX1_pageGoes := goodIn_r _ [16, 17, 18, 19, 20, 15, 21, 22, 23, 24, 25, 26, 27, 46, 47, 48, 49, 50, 51, 52, 53, 54, 55, 56, 57] (by decide +kernel) (by decide +kernel)
set_option maxRecDepth 20000 in
theorem gX1_oldestGoes_X1_pageGoes : GoodIn wsX1_oldestGoes (wsV RX1 137 RX1 yX1_pageGoes wsX1_pageGoes) := goodIn_app (goodIn_of _ (by decide +kernel)) ggX1_oldestGoes_X1_pageGoes
set_option maxRecDepth 20000 in
theorem ggX1_oldestGoes_X0_remove : GoodIn wsX1_oldestGoes wsX0_remove := goodIn_r _ [31, 6, 11, 32, 33, 34, 35, 36, 37, 38, 4, 39, 44, 45] (by decide +kernel) (by decide +kernel)
set_option maxRecDepth 20000 in
theorem gX1_oldestGoes_X0_remove : GoodIn wsX1_oldestGoes (wsV RX1 118 RX0 yX0_remove wsX0_remove) := goodIn_app (goodIn_of _ (by decide +kernel)) ggX1_oldestGoes_X0_remove
set_option maxRecDepth 20000 in
theorem ggX1_oldestGoes_X0_addNewest : GoodIn wsX1_oldestGoes wsX0_addNewest := goodIn_r _ [43, 6, 11, 20, 15, 21, 44, 45] (by decide +kernel) (by decide +kernel)
set_option maxRecDepth 20000 in
theorem gX1_oldestGoes_X0_addNewest : GoodIn wsX1_oldestGoes (wsV RX1 106 RX0 yX0_addNewest wsX0_addNewest) := goodIn_app (goodIn_of _ (by decide +kernel)) ggX1_oldestGoes_X0_addNewest
theorem dX1_oldestGoes_0 : decode cX1_oldestGoes 0 = .ok (.aload_n 1, 1) := by decide +kernel
theorem dX1_oldestGoes_1 : decode cX1_oldestGoes 1 = .ok (.invokevirtual 134, 3) := by decide +kernel
theorem dX1_oldestGoes_4 : decode cX1_oldestGoes 4 = .ok (.istore_n 3, 1) := by decide +kernel
theorem dX1_oldestGoes_5 : decode cX1_oldestGoes 5 = .ok (.aload_n 0, 1) := by decide +kernel
theorem dX1_oldestGoes_6 : decode cX1_oldestGoes 6 = .ok (.iload_n 3, 1) := by decide +kernel
theorem dX1_oldestGoes_7 : decode cX1_oldestGoes 7 = .ok (.invokevirtual 137, 3) := by decide +kernel
theorem dX1_oldestGoes_10 : decode cX1_oldestGoes 10 = .ok (.aload_n 1, 1) := by decide +kernel
theorem dX1_oldestGoes_11 : decode cX1_oldestGoes 11 = .ok (.iload_n 3, 1) := by decide +kernel
theorem dX1_oldestGoes_12 : decode cX1_oldestGoes 12 = .ok (.invokevirtual 118, 3) := by decide +kernel
theorem dX1_oldestGoes_15 : decode cX1_oldestGoes 15 = .ok (.aload_n 2, 1) := by decide +kernel
theorem dX1_oldestGoes_16 : decode cX1_oldestGoes 16 = .ok (.iload_n 3, 1) := by decide +kernel
theorem dX1_oldestGoes_17 : decode cX1_oldestGoes 17 = .ok (.invokevirtual 106, 3) := by decide +kernel
theorem dX1_oldestGoes_20 : decode cX1_oldestGoes 20 = .ok (.return_, 1) := by decide +kernel
set_option maxRecDepth 20000 in
theorem ggX1_pageGoes_X1_isAddress : GoodIn wsX1_pageGoes wsX1_isAddress := goodIn_r _ [6] (by decide +kernel) (by decide +kernel)
set_option maxRecDepth 20000 in
theorem gX1_pageGoes_X1_isAddress : GoodIn wsX1_pageGoes (va_wsS RX1 67 yX1_isAddress wsX1_isAddress) := goodIn_app (goodIn_of _ (by decide +kernel)) ggX1_pageGoes_X1_isAddress
set_option maxRecDepth 20000 in
theorem ggX1_pageGoes_X1_writeBack : GoodIn wsX1_pageGoes wsX1_writeBack := goodIn_r _ [10, 11, 12, 1, 13, 14, 15, 16, 17, 18, 19, 20, 21, 22, 23, 24] (by decide +kernel) (by decide +kernel)
set_option maxRecDepth 20000 in
theorem gX1_pageGoes_X1_writeBack : GoodIn wsX1_pageGoes (wsV RX1 75 RX1 yX1_writeBack wsX1_writeBack) := goodIn_app (goodIn_of _ (by decide +kernel)) ggX1_pageGoes_X1_writeBack
theorem dX1_pageGoes_0 : decode cX1_pageGoes 0 = .ok (.iload_n 1, 1) := by decide +kernel
theorem dX1_pageGoes_1 : decode cX1_pageGoes 1 = .ok (.invokestatic 67, 3) := by decide +kernel
theorem dX1_pageGoes_4 : decode cX1_pageGoes 4 = .ok (.ifCond .ne 4, 3) := by decide +kernel
theorem dX1_pageGoes_7 : decode cX1_pageGoes 7 = .ok (.return_, 1) := by decide +kernel
theorem dX1_pageGoes_8 : decode cX1_pageGoes 8 = .ok (.aload_n 0, 1) := by decide +kernel
theorem dX1_pageGoes_9 : decode cX1_pageGoes 9 = .ok (.getfield 29, 3) := by decide +kernel
theorem dX1_pageGoes_12 : decode cX1_pageGoes 12 = .ok (.iload_n 1, 1) := by decide +kernel
theorem dX1_pageGoes_13 : decode cX1_pageGoes 13 = .ok (.baload, 1) := by decide +kernel
theorem dX1_pageGoes_14 : decode cX1_pageGoes 14 = .ok (.ifCond .eq 8, 3) := by decide +kernel
theorem dX1_pageGoes_17 : decode cX1_pageGoes 17 = .ok (.aload_n 0, 1) := by decide +kernel
theorem dX1_pageGoes_18 : decode cX1_pageGoes 18 = .ok (.iload_n 1, 1) := by decide +kernel
theorem dX1_pageGoes_19 : decode cX1_pageGoes 19 = .ok (.invokevirtual 75, 3) := by decide +kernel
theorem dX1_pageGoes_22 : decode cX1_pageGoes 22 = .ok (.aload_n 0, 1) := by decide +kernel
theorem dX1_pageGoes_23 : decode cX1_pageGoes 23 = .ok (.dup, 1) := by decide +kernel
theorem dX1_pageGoes_24 : decode cX1_pageGoes 24 = .ok (.getfield 64, 3) := by decide +kernel
theorem dX1_pageGoes_27 : decode cX1_pageGoes 27 = .ok (.iconst 1, 1) := by decide +kernel
theorem dX1_pageGoes_28 : decode cX1_pageGoes 28 = .ok (.iadd, 1) := by decide +kernel
theorem dX1_pageGoes_29 : decode cX1_pageGoes 29 = .ok (.putfield 64, 3) := by decide +kernel
theorem dX1_pageGoes_32 : decode cX1_pageGoes 32 = .ok (.return_, 1) := by decide +kernel
theorem dX1_writeBack_0 : decode cX1_writeBack 0 = .ok (.aload_n 0, 1) := by decide +kernel
theorem dX1_writeBack_1 : decode cX1_writeBack 1 = .ok (.getfield 33, 3) := by decide +kernel
theorem dX1_writeBack_4 : decode cX1_writeBack 4 = .ok (.iload_n 1, 1) := by decide +kernel
theorem dX1_writeBack_5 : decode cX1_writeBack 5 = .ok (.aload_n 0, 1) := by decide +kernel
theorem dX1_writeBack_6 : decode cX1_writeBack 6 = .ok (.getfield 25, 3) := by decide +kernel
theorem dX1_writeBack_9 : decode cX1_writeBack 9 = .ok (.iload_n 1, 1) := by decide +kernel
theorem dX1_writeBack_10 : decode cX1_writeBack 10 = .ok (.iaload, 1) := by decide +kernel
theorem dX1_writeBack_11 : decode cX1_writeBack 11 = .ok (.iastore, 1) := by decide +kernel
theorem dX1_writeBack_12 : decode cX1_writeBack 12 = .ok (.aload_n 0, 1) := by decide +kernel
theorem dX1_writeBack_13 : decode cX1_writeBack 13 = .ok (.getfield 29, 3) := by decide +kernel
theorem dX1_writeBack_16 : decode cX1_writeBack 16 = .ok (.iload_n 1, 1) := by decide +kernel
theorem dX1_writeBack_17 : decode cX1_writeBack 17 = .ok (.iconst 0, 1) := by decide +kernel
theorem dX1_writeBack_18 : decode cX1_writeBack 18 = .ok (.bastore, 1) := by decide +kernel
theorem dX1_writeBack_19 : decode cX1_writeBack 19 = .ok (.return_, 1) := by decide +kernel
theorem dX2_init_0 : decode cX2_init 0 = .ok (.aload_n 0, 1) := by decide +kernel
theorem dX2_init_1 : decode cX2_init 1 = .ok (.invokespecial 1, 3) := by decide +kernel
theorem dX2_init_4 : decode cX2_init 4 = .ok (.aload_n 0, 1) := by decide +kernel
theorem dX2_init_5 : decode cX2_init 5 = .ok (.sipush 320, 3) := by decide +kernel
theorem dX2_init_8 : decode cX2_init 8 = .ok (.newarray .int, 2) := by decide +kernel
theorem dX2_init_10 : decode cX2_init 10 = .ok (.putfield 7, 3) := by decide +kernel
theorem dX2_init_13 : decode cX2_init 13 = .ok (.aload_n 0, 1) := by decide +kernel
theorem dX2_init_14 : decode cX2_init 14 = .ok (.iconst 5, 1) := by decide +kernel
theorem dX2_init_15 : decode cX2_init 15 = .ok (.newarray .int, 2) := by decide +kernel
theorem dX2_init_17 : decode cX2_init 17 = .ok (.putfield 13, 3) := by decide +kernel
theorem dX2_init_20 : decode cX2_init 20 = .ok (.aload_n 0, 1) := by decide +kernel
theorem dX2_init_21 : decode cX2_init 21 = .ok (.bipush 64, 2) := by decide +kernel
theorem dX2_init_23 : decode cX2_init 23 = .ok (.newarray .int, 2) := by decide +kernel
theorem dX2_init_25 : decode cX2_init 25 = .ok (.putfield 16, 3) := by decide +kernel
theorem dX2_init_28 : decode cX2_init 28 = .ok (.aload_n 0, 1) := by decide +kernel
theorem dX2_init_29 : decode cX2_init 29 = .ok (.bipush 64, 2) := by decide +kernel
theorem dX2_init_31 : decode cX2_init 31 = .ok (.newarray .int, 2) := by decide +kernel
theorem dX2_init_33 : decode cX2_init 33 = .ok (.putfield 19, 3) := by decide +kernel
theorem dX2_init_36 : decode cX2_init 36 = .ok (.aload_n 0, 1) := by decide +kernel
theorem dX2_init_37 : decode cX2_init 37 = .ok (.bipush 64, 2) := by decide +kernel
theorem dX2_init_39 : decode cX2_init 39 = .ok (.newarray .boolean, 2) := by decide +kernel
theorem dX2_init_41 : decode cX2_init 41 = .ok (.putfield 22, 3) := by decide +kernel
theorem dX2_init_44 : decode cX2_init 44 = .ok (.iload_n 1, 1) := by decide +kernel
theorem dX2_init_45 : decode cX2_init 45 = .ok (.bipush 24, 2) := by decide +kernel
theorem dX2_init_47 : decode cX2_init 47 = .ok (.irem, 1) := by decide +kernel
theorem dX2_init_48 : decode cX2_init 48 = .ok (.istore_n 2, 1) := by decide +kernel
theorem dX2_init_49 : decode cX2_init 49 = .ok (.aload_n 0, 1) := by decide +kernel
theorem dX2_init_50 : decode cX2_init 50 = .ok (.iconst 1, 1) := by decide +kernel
theorem dX2_init_51 : decode cX2_init 51 = .ok (.iload_n 2, 1) := by decide +kernel
theorem dX2_init_52 : decode cX2_init 52 = .ok (.ifCond .ge 10, 3) := by decide +kernel
theorem dX2_init_55 : decode cX2_init 55 = .ok (.iload_n 2, 1) := by decide +kernel
theorem dX2_init_56 : decode cX2_init 56 = .ok (.bipush 24, 2) := by decide +kernel
theorem dX2_init_58 : decode cX2_init 58 = .ok (.iadd, 1) := by decide +kernel
theorem dX2_init_59 : decode cX2_init 59 = .ok (.goto 4, 3) := by decide +kernel
theorem dX2_init_62 : decode cX2_init 62 = .ok (.iload_n 2, 1) := by decide +kernel
theorem dX2_init_63 : decode cX2_init 63 = .ok (.iadd, 1) := by decide +kernel
theorem dX2_init_64 : decode cX2_init 64 = .ok (.putfield 26, 3) := by decide +kernel
theorem dX2_init_67 : decode cX2_init 67 = .ok (.return_, 1) := by decide +kernel
theorem dX2_init__0 : decode cX2_init_ 0 = .ok (.iconst 0, 1) := by decide +kernel
theorem dX2_init__1 : decode cX2_init_ 1 = .ok (.istore_n 1, 1) := by decide +kernel
theorem dX2_init__2 : decode cX2_init_ 2 = .ok (.iload_n 1, 1) := by decide +kernel
theorem dX2_init__3 : decode cX2_init_ 3 = .ok (.iconst 5, 1) := by decide +kernel
theorem dX2_init__4 : decode cX2_init_ 4 = .ok (.if_icmp .ge 16, 3) := by decide +kernel
theorem dX2_init__7 : decode cX2_init_ 7 = .ok (.aload_n 0, 1) := by decide +kernel
theorem dX2_init__8 : decode cX2_init_ 8 = .ok (.getfield 13, 3) := by decide +kernel
theorem dX2_init__11 : decode cX2_init_ 11 = .ok (.iload_n 1, 1) := by decide +kernel
theorem dX2_init__12 : decode cX2_init_ 12 = .ok (.iconst 0, 1) := by decide +kernel
theorem dX2_init__13 : decode cX2_init_ 13 = .ok (.iastore, 1) := by decide +kernel
theorem dX2_init__14 : decode cX2_init_ 14 = .ok (.iinc 1 1, 3) := by decide +kernel
theorem dX2_init__17 : decode cX2_init_ 17 = .ok (.goto (-15), 3) := by decide +kernel
theorem dX2_init__20 : decode cX2_init_ 20 = .ok (.iconst 0, 1) := by decide +kernel
theorem dX2_init__21 : decode cX2_init_ 21 = .ok (.istore_n 1, 1) := by decide +kernel
theorem dX2_init__22 : decode cX2_init_ 22 = .ok (.iload_n 1, 1) := by decide +kernel
theorem dX2_init__23 : decode cX2_init_ 23 = .ok (.bipush 64, 2) := by decide +kernel
theorem dX2_init__25 : decode cX2_init_ 25 = .ok (.if_icmp .ge 30, 3) := by decide +kernel
theorem dX2_init__28 : decode cX2_init_ 28 = .ok (.aload_n 0, 1) := by decide +kernel
theorem dX2_init__29 : decode cX2_init_ 29 = .ok (.getfield 16, 3) := by decide +kernel
theorem dX2_init__32 : decode cX2_init_ 32 = .ok (.iload_n 1, 1) := by decide +kernel
theorem dX2_init__33 : decode cX2_init_ 33 = .ok (.iconst 0, 1) := by decide +kernel
theorem dX2_init__34 : decode cX2_init_ 34 = .ok (.iastore, 1) := by decide +kernel
theorem dX2_init__35 : decode cX2_init_ 35 = .ok (.aload_n 0, 1) := by decide +kernel
theorem dX2_init__36 : decode cX2_init_ 36 = .ok (.getfield 19, 3) := by decide +kernel
theorem dX2_init__39 : decode cX2_init_ 39 = .ok (.iload_n 1, 1) := by decide +kernel
theorem dX2_init__40 : decode cX2_init_ 40 = .ok (.iconst 0, 1) := by decide +kernel
theorem dX2_init__41 : decode cX2_init_ 41 = .ok (.iastore, 1) := by decide +kernel
theorem dX2_init__42 : decode cX2_init_ 42 = .ok (.aload_n 0, 1) := by decide +kernel
theorem dX2_init__43 : decode cX2_init_ 43 = .ok (.getfield 22, 3) := by decide +kernel
theorem dX2_init__46 : decode cX2_init_ 46 = .ok (.iload_n 1, 1) := by decide +kernel
theorem dX2_init__47 : decode cX2_init_ 47 = .ok (.iconst 0, 1) := by decide +kernel
theorem dX2_init__48 : decode cX2_init_ 48 = .ok (.bastore, 1) := by decide +kernel
theorem dX2_init__49 : decode cX2_init_ 49 = .ok (.iinc 1 1, 3) := by decide +kernel
theorem dX2_init__52 : decode cX2_init_ 52 = .ok (.goto (-30), 3) := by decide +kernel
theorem dX2_init__55 : decode cX2_init_ 55 = .ok (.aload_n 0, 1) := by decide +kernel
theorem dX2_init__56 : decode cX2_init_ 56 = .ok (.iconst 0, 1) := by decide +kernel
theorem dX2_init__57 : decode cX2_init_ 57 = .ok (.putfield 30, 3) := by decide +kernel
theorem dX2_init__60 : decode cX2_init_ 60 = .ok (.aload_n 0, 1) := by decide +kernel
theorem dX2_init__61 : decode cX2_init_ 61 = .ok (.iconst 0, 1) := by decide +kernel
theorem dX2_init__62 : decode cX2_init_ 62 = .ok (.putfield 33, 3) := by decide +kernel
theorem dX2_init__65 : decode cX2_init_ 65 = .ok (.aload_n 0, 1) := by decide +kernel
theorem dX2_init__66 : decode cX2_init_ 66 = .ok (.iconst 0, 1) := by decide +kernel
theorem dX2_init__67 : decode cX2_init_ 67 = .ok (.putfield 36, 3) := by decide +kernel
theorem dX2_init__70 : decode cX2_init_ 70 = .ok (.aload_n 0, 1) := by decide +kernel
theorem dX2_init__71 : decode cX2_init_ 71 = .ok (.iconst 0, 1) := by decide +kernel
theorem dX2_init__72 : decode cX2_init_ 72 = .ok (.putfield 39, 3) := by decide +kernel
theorem dX2_init__75 : decode cX2_init_ 75 = .ok (.return_, 1) := by decide +kernel
theorem dX2_isAddress_0 : decode cX2_isAddress 0 = .ok (.iload_n 0, 1) := by decide +kernel
theorem dX2_isAddress_1 : decode cX2_isAddress 1 = .ok (.ifCond .lt 13, 3) := by decide +kernel
theorem dX2_isAddress_4 : decode cX2_isAddress 4 = .ok (.iload_n 0, 1) := by decide +kernel
theorem dX2_isAddress_5 : decode cX2_isAddress 5 = .ok (.bipush 64, 2) := by decide +kernel
theorem dX2_isAddress_7 : decode cX2_isAddress 7 = .ok (.if_icmp .ge 7, 3) := by decide +kernel
theorem dX2_isAddress_10 : decode cX2_isAddress 10 = .ok (.iconst 1, 1) := by decide +kernel
theorem dX2_isAddress_11 : decode cX2_isAddress 11 = .ok (.goto 4, 3) := by decide +kernel
theorem dX2_isAddress_14 : decode cX2_isAddress 14 = .ok (.iconst 0, 1) := by decide +kernel
theorem dX2_isAddress_15 : decode cX2_isAddress 15 = .ok (.ireturn, 1) := by decide +kernel
theorem dX2_whichList_0 : decode cX2_whichList 0 = .ok (.iconst 0, 1) := by decide +kernel
theorem dX2_whichList_1 : decode cX2_whichList 1 = .ok (.istore_n 2, 1) := by decide +kernel
theorem dX2_whichList_2 : decode cX2_whichList 2 = .ok (.iconst 1, 1) := by decide +kernel
theorem dX2_whichList_3 : decode cX2_whichList 3 = .ok (.istore_n 3, 1) := by decide +kernel
theorem dX2_whichList_4 : decode cX2_whichList 4 = .ok (.iload_n 3, 1) := by decide +kernel
theorem dX2_whichList_5 : decode cX2_whichList 5 = .ok (.iconst 5, 1) := by decide +kernel
theorem dX2_whichList_6 : decode cX2_whichList 6 = .ok (.if_icmp .ge 51, 3) := by decide +kernel
theorem dX2_whichList_9 : decode cX2_whichList 9 = .ok (.iconst 0, 1) := by decide +kernel
theorem dX2_whichList_10 : decode cX2_whichList 10 = .ok (.istore 4, 2) := by decide +kernel
theorem dX2_whichList_12 : decode cX2_whichList 12 = .ok (.iload 4, 2) := by decide +kernel
theorem dX2_whichList_14 : decode cX2_whichList 14 = .ok (.aload_n 0, 1) := by decide +kernel
theorem dX2_whichList_15 : decode cX2_whichList 15 = .ok (.getfield 13, 3) := by decide +kernel
theorem dX2_whichList_18 : decode cX2_whichList 18 = .ok (.iload_n 3, 1) := by decide +kernel
theorem dX2_whichList_19 : decode cX2_whichList 19 = .ok (.iaload, 1) := by decide +kernel
theorem dX2_whichList_20 : decode cX2_whichList 20 = .ok (.if_icmp .ge 31, 3) := by decide +kernel
theorem dX2_whichList_23 : decode cX2_whichList 23 = .ok (.aload_n 0, 1) := by decide +kernel
theorem dX2_whichList_24 : decode cX2_whichList 24 = .ok (.getfield 7, 3) := by decide +kernel
theorem dX2_whichList_27 : decode cX2_whichList 27 = .ok (.bipush 64, 2) := by decide +kernel
theorem dX2_whichList_29 : decode cX2_whichList 29 = .ok (.iload_n 3, 1) := by decide +kernel
theorem dX2_whichList_30 : decode cX2_whichList 30 = .ok (.imul, 1) := by decide +kernel
theorem dX2_whichList_31 : decode cX2_whichList 31 = .ok (.iload 4, 2) := by decide +kernel
theorem dX2_whichList_33 : decode cX2_whichList 33 = .ok (.iadd, 1) := by decide +kernel
theorem dX2_whichList_34 : decode cX2_whichList 34 = .ok (.iaload, 1) := by decide +kernel
theorem dX2_whichList_35 : decode cX2_whichList 35 = .ok (.iload_n 1, 1) := by decide +kernel
theorem dX2_whichList_36 : decode cX2_whichList 36 = .ok (.if_icmp .ne 7, 3) := by decide +kernel
theorem dX2_whichList_39 : decode cX2_whichList 39 = .ok (.iload_n 3, 1) := by decide +kernel
theorem dX2_whichList_40 : decode cX2_whichList 40 = .ok (.goto 4, 3) := by decide +kernel
theorem dX2_whichList_43 : decode cX2_whichList 43 = .ok (.iload_n 2, 1) := by decide +kernel
theorem dX2_whichList_44 : decode cX2_whichList 44 = .ok (.istore_n 2, 1) := by decide +kernel
theorem dX2_whichList_45 : decode cX2_whichList 45 = .ok (.iinc 4 1, 3) := by decide +kernel
theorem dX2_whichList_48 : decode cX2_whichList 48 = .ok (.goto (-36), 3) := by decide +kernel
theorem dX2_whichList_51 : decode cX2_whichList 51 = .ok (.iinc 3 1, 3) := by decide +kernel
theorem dX2_whichList_54 : decode cX2_whichList 54 = .ok (.goto (-50), 3) := by decide +kernel
theorem dX2_whichList_57 : decode cX2_whichList 57 = .ok (.iload_n 2, 1) := by decide +kernel
theorem dX2_whichList_58 : decode cX2_whichList 58 = .ok (.ireturn, 1) := by decide +kernel
set_option maxRecDepth 20000 in
theorem ggX2_leave_X2_whichList : GoodIn wsX2_leave wsX2_whichList := goodIn_r _ [7, 2, 1, 8, 9, 10, 11, 12, 13, 14, 15, 16, 17] (by decide +kernel) (by decide +kernel)
set_option maxRecDepth 20000 in
theorem gX2_leave_X2_whichList : GoodIn wsX2_leave (wsV RX2 42 RX2 yX2_whichList wsX2_whichList) := goodIn_app (goodIn_of _ (by decide +kernel)) ggX2_leave_X2_whichList
theorem dX2_leave_0 : decode cX2_leave 0 = .ok (.aload_n 0, 1) := by decide +kernel
theorem dX2_leave_1 : decode cX2_leave 1 = .ok (.iload_n 1, 1) := by decide +kernel
theorem dX2_leave_2 : decode cX2_leave 2 = .ok (.invokevirtual 42, 3) := by decide +kernel
theorem dX2_leave_5 : decode cX2_leave 5 = .ok (.istore_n 2, 1) := by decide +kernel
theorem dX2_leave_6 : decode cX2_leave 6 = .ok (.iload_n 2, 1) := by decide +kernel
theorem dX2_leave_7 : decode cX2_leave 7 = .ok (.ifCond .le 69, 3) := by decide +kernel
theorem dX2_leave_10 : decode cX2_leave 10 = .ok (.bipush 64, 2) := by decide +kernel
theorem dX2_leave_12 : decode cX2_leave 12 = .ok (.iload_n 2, 1) := by decide +kernel
theorem dX2_leave_13 : decode cX2_leave 13 = .ok (.imul, 1) := by decide +kernel
theorem dX2_leave_14 : decode cX2_leave 14 = .ok (.istore_n 3, 1) := by decide +kernel
theorem dX2_leave_15 : decode cX2_leave 15 = .ok (.aload_n 0, 1) := by decide +kernel
theorem dX2_leave_16 : decode cX2_leave 16 = .ok (.getfield 7, 3) := by decide +kernel
theorem dX2_leave_19 : decode cX2_leave 19 = .ok (.iload_n 3, 1) := by decide +kernel
theorem dX2_leave_20 : decode cX2_leave 20 = .ok (.iaload, 1) := by decide +kernel
theorem dX2_leave_21 : decode cX2_leave 21 = .ok (.iload_n 1, 1) := by decide +kernel
theorem dX2_leave_22 : decode cX2_leave 22 = .ok (.if_icmp .eq 9, 3) := by decide +kernel
theorem dX2_leave_25 : decode cX2_leave 25 = .ok (.iinc 3 1, 3) := by decide +kernel
theorem dX2_leave_28 : decode cX2_leave 28 = .ok (.goto (-13), 3) := by decide +kernel
theorem dX2_leave_31 : decode cX2_leave 31 = .ok (.aload_n 0, 1) := by decide +kernel
theorem dX2_leave_32 : decode cX2_leave 32 = .ok (.getfield 13, 3) := by decide +kernel
theorem dX2_leave_35 : decode cX2_leave 35 = .ok (.iload_n 2, 1) := by decide +kernel
theorem dX2_leave_36 : decode cX2_leave 36 = .ok (.dup2, 1) := by decide +kernel
theorem dX2_leave_37 : decode cX2_leave 37 = .ok (.iaload, 1) := by decide +kernel
theorem dX2_leave_38 : decode cX2_leave 38 = .ok (.iconst 1, 1) := by decide +kernel
theorem dX2_leave_39 : decode cX2_leave 39 = .ok (.isub, 1) := by decide +kernel
theorem dX2_leave_40 : decode cX2_leave 40 = .ok (.iastore, 1) := by decide +kernel
theorem dX2_leave_41 : decode cX2_leave 41 = .ok (.iload_n 3, 1) := by decide +kernel
theorem dX2_leave_42 : decode cX2_leave 42 = .ok (.bipush 64, 2) := by decide +kernel
theorem dX2_leave_44 : decode cX2_leave 44 = .ok (.iload_n 2, 1) := by decide +kernel
theorem dX2_leave_45 : decode cX2_leave 45 = .ok (.imul, 1) := by decide +kernel
theorem dX2_leave_46 : decode cX2_leave 46 = .ok (.aload_n 0, 1) := by decide +kernel
theorem dX2_leave_47 : decode cX2_leave 47 = .ok (.getfield 13, 3) := by decide +kernel
theorem dX2_leave_50 : decode cX2_leave 50 = .ok (.iload_n 2, 1) := by decide +kernel
theorem dX2_leave_51 : decode cX2_leave 51 = .ok (.iaload, 1) := by decide +kernel
theorem dX2_leave_52 : decode cX2_leave 52 = .ok (.iadd, 1) := by decide +kernel
theorem dX2_leave_53 : decode cX2_leave 53 = .ok (.if_icmp .ge 23, 3) := by decide +kernel
theorem dX2_leave_56 : decode cX2_leave 56 = .ok (.aload_n 0, 1) := by decide +kernel
theorem dX2_leave_57 : decode cX2_leave 57 = .ok (.getfield 7, 3) := by decide +kernel
theorem dX2_leave_60 : decode cX2_leave 60 = .ok (.iload_n 3, 1) := by decide +kernel
theorem dX2_leave_61 : decode cX2_leave 61 = .ok (.aload_n 0, 1) := by decide +kernel
theorem dX2_leave_62 : decode cX2_leave 62 = .ok (.getfield 7, 3) := by decide +kernel
theorem dX2_leave_65 : decode cX2_leave 65 = .ok (.iload_n 3, 1) := by decide +kernel
theorem dX2_leave_66 : decode cX2_leave 66 = .ok (.iconst 1, 1) := by decide +kernel
theorem dX2_leave_67 : decode cX2_leave 67 = .ok (.iadd, 1) := by decide +kernel
theorem dX2_leave_68 : decode cX2_leave 68 = .ok (.iaload, 1) := by decide +kernel
theorem dX2_leave_69 : decode cX2_leave 69 = .ok (.iastore, 1) := by decide +kernel
theorem dX2_leave_70 : decode cX2_leave 70 = .ok (.iinc 3 1, 3) := by decide +kernel
theorem dX2_leave_73 : decode cX2_leave 73 = .ok (.goto (-32), 3) := by decide +kernel
theorem dX2_leave_76 : decode cX2_leave 76 = .ok (.return_, 1) := by decide +kernel
set_option maxRecDepth 20000 in
theorem ggX2_come_X2_leave : GoodIn wsX2_come wsX2_leave := goodIn_r _ [7, 2, 1, 8, 9, 10, 6, 11, 12, 13, 14, 15, 16, 17, 18, 19, 20, 21] (by decide +kernel) (by decide +kernel)
set_option maxRecDepth 20000 in
theorem gX2_come_X2_leave : GoodIn wsX2_come (wsV RX2 46 RX2 yX2_leave wsX2_leave) := goodIn_app (goodIn_of _ (by decide +kernel)) ggX2_come_X2_leave
theorem dX2_come_0 : decode cX2_come 0 = .ok (.aload_n 0, 1) := by decide +kernel
theorem dX2_come_1 : decode cX2_come 1 = .ok (.iload_n 1, 1) := by decide +kernel
theorem dX2_come_2 : decode cX2_come 2 = .ok (.invokevirtual 46, 3) := by decide +kernel
theorem dX2_come_5 : decode cX2_come 5 = .ok (.bipush 64, 2) := by decide +kernel
theorem dX2_come_7 : decode cX2_come 7 = .ok (.iload_n 2, 1) := by decide +kernel
theorem dX2_come_8 : decode cX2_come 8 = .ok (.imul, 1) := by decide +kernel
theorem dX2_come_9 : decode cX2_come 9 = .ok (.aload_n 0, 1) := by decide +kernel
theorem dX2_come_10 : decode cX2_come 10 = .ok (.getfield 13, 3) := by decide +kernel
theorem dX2_come_13 : decode cX2_come 13 = .ok (.iload_n 2, 1) := by decide +kernel
theorem dX2_come_14 : decode cX2_come 14 = .ok (.iaload, 1) := by decide +kernel
theorem dX2_come_15 : decode cX2_come 15 = .ok (.iadd, 1) := by decide +kernel
theorem dX2_come_16 : decode cX2_come 16 = .ok (.istore_n 3, 1) := by decide +kernel
theorem dX2_come_17 : decode cX2_come 17 = .ok (.iload_n 3, 1) := by decide +kernel
theorem dX2_come_18 : decode cX2_come 18 = .ok (.bipush 64, 2) := by decide +kernel
theorem dX2_come_20 : decode cX2_come 20 = .ok (.iload_n 2, 1) := by decide +kernel
theorem dX2_come_21 : decode cX2_come 21 = .ok (.imul, 1) := by decide +kernel
theorem dX2_come_22 : decode cX2_come 22 = .ok (.if_icmp .le 23, 3) := by decide +kernel
theorem dX2_come_25 : decode cX2_come 25 = .ok (.aload_n 0, 1) := by decide +kernel
theorem dX2_come_26 : decode cX2_come 26 = .ok (.getfield 7, 3) := by decide +kernel
theorem dX2_come_29 : decode cX2_come 29 = .ok (.iload_n 3, 1) := by decide +kernel
theorem dX2_come_30 : decode cX2_come 30 = .ok (.aload_n 0, 1) := by decide +kernel
theorem dX2_come_31 : decode cX2_come 31 = .ok (.getfield 7, 3) := by decide +kernel
theorem dX2_come_34 : decode cX2_come 34 = .ok (.iload_n 3, 1) := by decide +kernel
theorem dX2_come_35 : decode cX2_come 35 = .ok (.iconst 1, 1) := by decide +kernel
theorem dX2_come_36 : decode cX2_come 36 = .ok (.isub, 1) := by decide +kernel
theorem dX2_come_37 : decode cX2_come 37 = .ok (.iaload, 1) := by decide +kernel
theorem dX2_come_38 : decode cX2_come 38 = .ok (.iastore, 1) := by decide +kernel
theorem dX2_come_39 : decode cX2_come 39 = .ok (.iinc 3 (-1), 3) := by decide +kernel
theorem dX2_come_42 : decode cX2_come 42 = .ok (.goto (-25), 3) := by decide +kernel
theorem dX2_come_45 : decode cX2_come 45 = .ok (.aload_n 0, 1) := by decide +kernel
theorem dX2_come_46 : decode cX2_come 46 = .ok (.getfield 7, 3) := by decide +kernel
theorem dX2_come_49 : decode cX2_come 49 = .ok (.bipush 64, 2) := by decide +kernel
theorem dX2_come_51 : decode cX2_come 51 = .ok (.iload_n 2, 1) := by decide +kernel
theorem dX2_come_52 : decode cX2_come 52 = .ok (.imul, 1) := by decide +kernel
theorem dX2_come_53 : decode cX2_come 53 = .ok (.iload_n 1, 1) := by decide +kernel
theorem dX2_come_54 : decode cX2_come 54 = .ok (.iastore, 1) := by decide +kernel
theorem dX2_come_55 : decode cX2_come 55 = .ok (.aload_n 0, 1) := by decide +kernel
theorem dX2_come_56 : decode cX2_come 56 = .ok (.getfield 13, 3) := by decide +kernel
theorem dX2_come_59 : decode cX2_come 59 = .ok (.iload_n 2, 1) := by decide +kernel
theorem dX2_come_60 : decode cX2_come 60 = .ok (.dup2, 1) := by decide +kernel
theorem dX2_come_61 : decode cX2_come 61 = .ok (.iaload, 1) := by decide +kernel
theorem dX2_come_62 : decode cX2_come 62 = .ok (.iconst 1, 1) := by decide +kernel
theorem dX2_come_63 : decode cX2_come 63 = .ok (.iadd, 1) := by decide +kernel
theorem dX2_come_64 : decode cX2_come 64 = .ok (.iastore, 1) := by decide +kernel
theorem dX2_come_65 : decode cX2_come 65 = .ok (.return_, 1) := by decide +kernel
theorem dX2_old_0 : decode cX2_old 0 = .ok (.aload_n 0, 1) := by decide +kernel
theorem dX2_old_1 : decode cX2_old 1 = .ok (.getfield 7, 3) := by decide +kernel
theorem dX2_old_4 : decode cX2_old 4 = .ok (.bipush 64, 2) := by decide +kernel
theorem dX2_old_6 : decode cX2_old 6 = .ok (.iload_n 1, 1) := by decide +kernel
theorem dX2_old_7 : decode cX2_old 7 = .ok (.imul, 1) := by decide +kernel
theorem dX2_old_8 : decode cX2_old 8 = .ok (.aload_n 0, 1) := by decide +kernel
theorem dX2_old_9 : decode cX2_old 9 = .ok (.getfield 13, 3) := by decide +kernel
theorem dX2_old_12 : decode cX2_old 12 = .ok (.iload_n 1, 1) := by decide +kernel
theorem dX2_old_13 : decode cX2_old 13 = .ok (.iaload, 1) := by decide +kernel
theorem dX2_old_14 : decode cX2_old 14 = .ok (.iadd, 1) := by decide +kernel
theorem dX2_old_15 : decode cX2_old 15 = .ok (.iconst 1, 1) := by decide +kernel
theorem dX2_old_16 : decode cX2_old 16 = .ok (.isub, 1) := by decide +kernel
theorem dX2_old_17 : decode cX2_old 17 = .ok (.iaload, 1) := by decide +kernel
theorem dX2_old_18 : decode cX2_old 18 = .ok (.ireturn, 1) := by decide +kernel
theorem dX2_clean_0 : decode cX2_clean 0 = .ok (.aload_n 0, 1) := by decide +kernel
theorem dX2_clean_1 : decode cX2_clean 1 = .ok (.getfield 16, 3) := by decide +kernel
theorem dX2_clean_4 : decode cX2_clean 4 = .ok (.iload_n 1, 1) := by decide +kernel
theorem dX2_clean_5 : decode cX2_clean 5 = .ok (.aload_n 0, 1) := by decide +kernel
theorem dX2_clean_6 : decode cX2_clean 6 = .ok (.getfield 22, 3) := by decide +kernel
theorem dX2_clean_9 : decode cX2_clean 9 = .ok (.iload_n 1, 1) := by decide +kernel
theorem dX2_clean_10 : decode cX2_clean 10 = .ok (.baload, 1) := by decide +kernel
theorem dX2_clean_11 : decode cX2_clean 11 = .ok (.ifCond .eq 12, 3) := by decide +kernel
theorem dX2_clean_14 : decode cX2_clean 14 = .ok (.aload_n 0, 1) := by decide +kernel
theorem dX2_clean_15 : decode cX2_clean 15 = .ok (.getfield 19, 3) := by decide +kernel
theorem dX2_clean_18 : decode cX2_clean 18 = .ok (.iload_n 1, 1) := by decide +kernel
theorem dX2_clean_19 : decode cX2_clean 19 = .ok (.iaload, 1) := by decide +kernel
theorem dX2_clean_20 : decode cX2_clean 20 = .ok (.goto 9, 3) := by decide +kernel
theorem dX2_clean_23 : decode cX2_clean 23 = .ok (.aload_n 0, 1) := by decide +kernel
theorem dX2_clean_24 : decode cX2_clean 24 = .ok (.getfield 16, 3) := by decide +kernel
theorem dX2_clean_27 : decode cX2_clean 27 = .ok (.iload_n 1, 1) := by decide +kernel
theorem dX2_clean_28 : decode cX2_clean 28 = .ok (.iaload, 1) := by decide +kernel
theorem dX2_clean_29 : decode cX2_clean 29 = .ok (.iastore, 1) := by decide +kernel
theorem dX2_clean_30 : decode cX2_clean 30 = .ok (.aload_n 0, 1) := by decide +kernel
theorem dX2_clean_31 : decode cX2_clean 31 = .ok (.getfield 22, 3) := by decide +kernel
theorem dX2_clean_34 : decode cX2_clean 34 = .ok (.iload_n 1, 1) := by decide +kernel
theorem dX2_clean_35 : decode cX2_clean 35 = .ok (.iconst 0, 1) := by decide +kernel
theorem dX2_clean_36 : decode cX2_clean 36 = .ok (.bastore, 1) := by decide +kernel
theorem dX2_clean_37 : decode cX2_clean 37 = .ok (.return_, 1) := by decide +kernel
set_option maxRecDepth 20000 in
theorem ggX2_go_X2_clean : GoodIn wsX2_go wsX2_clean := goodIn_r _ [6, 7, 8, 9, 10, 11, 12, 13, 14, 15, 16, 17, 18, 19] (by decide +kernel) (by decide +kernel)
set_option maxRecDepth 20000 in
theorem gX2_go_X2_clean : GoodIn wsX2_go (wsV RX2 50 RX2 yX2_clean wsX2_clean) := goodIn_app (goodIn_of _ (by decide +kernel)) ggX2_go_X2_clean
theorem dX2_go_0 : decode cX2_go 0 = .ok (.aload_n 0, 1) := by decide +kernel
theorem dX2_go_1 : decode cX2_go 1 = .ok (.iload_n 1, 1) := by decide +kernel
theorem dX2_go_2 : decode cX2_go 2 = .ok (.invokevirtual 50, 3) := by decide +kernel
theorem dX2_go_5 : decode cX2_go 5 = .ok (.aload_n 0, 1) := by decide +kernel
theorem dX2_go_6 : decode cX2_go 6 = .ok (.dup, 1) := by decide +kernel
theorem dX2_go_7 : decode cX2_go 7 = .ok (.getfield 39, 3) := by decide +kernel
theorem dX2_go_10 : decode cX2_go 10 = .ok (.iconst 1, 1) := by decide +kernel
theorem dX2_go_11 : decode cX2_go 11 = .ok (.iadd, 1) := by decide +kernel
theorem dX2_go_12 : decode cX2_go 12 = .ok (.putfield 39, 3) := by decide +kernel
theorem dX2_go_15 : decode cX2_go 15 = .ok (.return_, 1) := by decide +kernel
set_option maxRecDepth 20000 in
theorem ggX2_makeRoom_X2_whichList : GoodIn wsX2_makeRoom wsX2_whichList := goodIn_r _ [7, 1, 8, 33, 34, 35, 36, 37, 38, 39, 40, 41, 42] (by decide +kernel) (by decide +kernel)
set_option maxRecDepth 20000 in
theorem gX2_makeRoom_X2_whichList : GoodIn wsX2_makeRoom (wsV RX2 42 RX2 yX2_whichList wsX2_whichList) := goodIn_app (goodIn_of _ (by decide +kernel)) ggX2_makeRoom_X2_whichList
set_option maxRecDepth 20000 in
theorem ggX2_makeRoom_X2_old : GoodIn wsX2_makeRoom wsX2_old := goodIn_r _ [12, 8, 1, 33, 34, 35, 36, 37, 38, 39, 40, 41, 42] (by decide +kernel) (by decide +kernel)
set_option maxRecDepth 20000 in
theorem gX2_makeRoom_X2_old : GoodIn wsX2_makeRoom (wsV RX2 53 RX2 yX2_old wsX2_old) := goodIn_app (goodIn_of _ (by decide +kernel)) ggX2_makeRoom_X2_old
set_option maxRecDepth 20000 in
theorem ggX2_makeRoom_X2_go : GoodIn wsX2_makeRoom wsX2_go := goodIn_r _ [16, 17, 18, 19, 20, 6, 21, 22, 23, 24, 33, 34, 35, 36, 37, 38, 39, 40, 41, 42] (by decide +kernel) (by decide +kernel)
set_option maxRecDepth 20000 in
theorem gX2_makeRoom_X2_go : GoodIn wsX2_makeRoom (wsV RX2 56 RX2 yX2_go wsX2_go) := goodIn_app (goodIn_of _ (by decide +kernel)) ggX2_makeRoom_X2_go
set_option maxRecDepth 20000 in
theorem ggX2_makeRoom_X2_come : GoodIn wsX2_makeRoom wsX2_come := goodIn_r _ [28, 1, 8, 29, 30, 31, 6, 32, 3, 4, 5, 7, 33, 34, 35, 36, 37, 38, 39, 40, 41, 42] (by decide +kernel) (by decide +kernel)
set_option maxRecDepth 20000 in
theorem gX2_makeRoom_X2_come : GoodIn wsX2_makeRoom (wsV RX2 59 RX2 yX2_come wsX2_come) := goodIn_app (goodIn_of _ (by decide +kernel)) ggX2_makeRoom_X2_come
theorem dX2_makeRoom_0 : decode cX2_makeRoom 0 = .ok (.aload_n 0, 1) := by decide +kernel
theorem dX2_makeRoom_1 : decode cX2_makeRoom 1 = .ok (.getfield 13, 3) := by decide +kernel
theorem dX2_makeRoom_4 : decode cX2_makeRoom 4 = .ok (.iconst 1, 1) := by decide +kernel
theorem dX2_makeRoom_5 : decode cX2_makeRoom 5 = .ok (.iaload, 1) := by decide +kernel
theorem dX2_makeRoom_6 : decode cX2_makeRoom 6 = .ok (.aload_n 0, 1) := by decide +kernel
theorem dX2_makeRoom_7 : decode cX2_makeRoom 7 = .ok (.getfield 30, 3) := by decide +kernel
theorem dX2_makeRoom_10 : decode cX2_makeRoom 10 = .ok (.if_icmp .gt 32, 3) := by decide +kernel
theorem dX2_makeRoom_13 : decode cX2_makeRoom 13 = .ok (.aload_n 0, 1) := by decide +kernel
theorem dX2_makeRoom_14 : decode cX2_makeRoom 14 = .ok (.getfield 13, 3) := by decide +kernel
theorem dX2_makeRoom_17 : decode cX2_makeRoom 17 = .ok (.iconst 1, 1) := by decide +kernel
theorem dX2_makeRoom_18 : decode cX2_makeRoom 18 = .ok (.iaload, 1) := by decide +kernel
theorem dX2_makeRoom_19 : decode cX2_makeRoom 19 = .ok (.aload_n 0, 1) := by decide +kernel
theorem dX2_makeRoom_20 : decode cX2_makeRoom 20 = .ok (.getfield 30, 3) := by decide +kernel
theorem dX2_makeRoom_23 : decode cX2_makeRoom 23 = .ok (.if_icmp .ne 23, 3) := by decide +kernel
theorem dX2_makeRoom_26 : decode cX2_makeRoom 26 = .ok (.aload_n 0, 1) := by decide +kernel
theorem dX2_makeRoom_27 : decode cX2_makeRoom 27 = .ok (.getfield 30, 3) := by decide +kernel
theorem dX2_makeRoom_30 : decode cX2_makeRoom 30 = .ok (.ifCond .le 16, 3) := by decide +kernel
theorem dX2_makeRoom_33 : decode cX2_makeRoom 33 = .ok (.aload_n 0, 1) := by decide +kernel
theorem dX2_makeRoom_34 : decode cX2_makeRoom 34 = .ok (.iload_n 1, 1) := by decide +kernel
theorem dX2_makeRoom_35 : decode cX2_makeRoom 35 = .ok (.invokevirtual 42, 3) := by decide +kernel
theorem dX2_makeRoom_38 : decode cX2_makeRoom 38 = .ok (.iconst 4, 1) := by decide +kernel
theorem dX2_makeRoom_39 : decode cX2_makeRoom 39 = .ok (.if_icmp .ne 7, 3) := by decide +kernel
theorem dX2_makeRoom_42 : decode cX2_makeRoom 42 = .ok (.iconst 1, 1) := by decide +kernel
theorem dX2_makeRoom_43 : decode cX2_makeRoom 43 = .ok (.goto 4, 3) := by decide +kernel
theorem dX2_makeRoom_46 : decode cX2_makeRoom 46 = .ok (.iconst 0, 1) := by decide +kernel
theorem dX2_makeRoom_47 : decode cX2_makeRoom 47 = .ok (.istore_n 2, 1) := by decide +kernel
theorem dX2_makeRoom_48 : decode cX2_makeRoom 48 = .ok (.iload_n 2, 1) := by decide +kernel
theorem dX2_makeRoom_49 : decode cX2_makeRoom 49 = .ok (.ifCond .eq 7, 3) := by decide +kernel
theorem dX2_makeRoom_52 : decode cX2_makeRoom 52 = .ok (.iconst 1, 1) := by decide +kernel
theorem dX2_makeRoom_53 : decode cX2_makeRoom 53 = .ok (.goto 4, 3) := by decide +kernel
theorem dX2_makeRoom_56 : decode cX2_makeRoom 56 = .ok (.iconst 2, 1) := by decide +kernel
theorem dX2_makeRoom_57 : decode cX2_makeRoom 57 = .ok (.istore_n 3, 1) := by decide +kernel
theorem dX2_makeRoom_58 : decode cX2_makeRoom 58 = .ok (.aload_n 0, 1) := by decide +kernel
theorem dX2_makeRoom_59 : decode cX2_makeRoom 59 = .ok (.getfield 13, 3) := by decide +kernel
theorem dX2_makeRoom_62 : decode cX2_makeRoom 62 = .ok (.iload_n 3, 1) := by decide +kernel
theorem dX2_makeRoom_63 : decode cX2_makeRoom 63 = .ok (.iaload, 1) := by decide +kernel
theorem dX2_makeRoom_64 : decode cX2_makeRoom 64 = .ok (.ifCond .le 25, 3) := by decide +kernel
theorem dX2_makeRoom_67 : decode cX2_makeRoom 67 = .ok (.aload_n 0, 1) := by decide +kernel
theorem dX2_makeRoom_68 : decode cX2_makeRoom 68 = .ok (.iload_n 3, 1) := by decide +kernel
theorem dX2_makeRoom_69 : decode cX2_makeRoom 69 = .ok (.invokevirtual 53, 3) := by decide +kernel
theorem dX2_makeRoom_72 : decode cX2_makeRoom 72 = .ok (.istore 4, 2) := by decide +kernel
theorem dX2_makeRoom_74 : decode cX2_makeRoom 74 = .ok (.aload_n 0, 1) := by decide +kernel
theorem dX2_makeRoom_75 : decode cX2_makeRoom 75 = .ok (.iload 4, 2) := by decide +kernel
theorem dX2_makeRoom_77 : decode cX2_makeRoom 77 = .ok (.invokevirtual 56, 3) := by decide +kernel
theorem dX2_makeRoom_80 : decode cX2_makeRoom 80 = .ok (.aload_n 0, 1) := by decide +kernel
theorem dX2_makeRoom_81 : decode cX2_makeRoom 81 = .ok (.iload 4, 2) := by decide +kernel
theorem dX2_makeRoom_83 : decode cX2_makeRoom 83 = .ok (.iload_n 3, 1) := by decide +kernel
theorem dX2_makeRoom_84 : decode cX2_makeRoom 84 = .ok (.iconst 2, 1) := by decide +kernel
theorem dX2_makeRoom_85 : decode cX2_makeRoom 85 = .ok (.iadd, 1) := by decide +kernel
theorem dX2_makeRoom_86 : decode cX2_makeRoom 86 = .ok (.invokevirtual 59, 3) := by decide +kernel
theorem dX2_makeRoom_89 : decode cX2_makeRoom 89 = .ok (.return_, 1) := by decide +kernel
set_option maxRecDepth 20000 in
theorem ggX2_comeNew_X2_old : GoodIn wsX2_comeNew wsX2_old := goodIn_r _ [7, 8, 1, 38, 39, 40, 41, 42, 43, 44, 45, 46, 47] (by decide +kernel) (by decide +kernel)
set_option maxRecDepth 20000 in
theorem gX2_comeNew_X2_old : GoodIn wsX2_comeNew (wsV RX2 53 RX2 yX2_old wsX2_old) := goodIn_app (goodIn_of _ (by decide +kernel)) ggX2_comeNew_X2_old
set_option maxRecDepth 20000 in
theorem ggX2_comeNew_X2_leave : GoodIn wsX2_comeNew wsX2_leave := goodIn_r _ [12, 8, 1, 13, 14, 15, 6, 16, 38, 39, 40, 41, 42, 43, 44, 45, 46, 47] (by decide +kernel) (by decide +kernel)
set_option maxRecDepth 20000 in
theorem gX2_comeNew_X2_leave : GoodIn wsX2_comeNew (wsV RX2 46 RX2 yX2_leave wsX2_leave) := goodIn_app (goodIn_of _ (by decide +kernel)) ggX2_comeNew_X2_leave
set_option maxRecDepth 20000 in
theorem ggX2_comeNew_X2_makeRoom : GoodIn wsX2_comeNew wsX2_makeRoom := goodIn_r _ [20, 1, 21, 13, 14, 15, 6, 16, 8, 3, 4, 5, 7, 22, 23, 24, 25, 26, 27, 28, 29, 30, 31, 32, 33, 34, 35, 36, 37, 9, 10, 11, 12, 38, 39, 40, 41, 42, 43, 44, 45, 46, 47] (by decide +kernel) (by decide +kernel)
set_option maxRecDepth 20000 in
theorem gX2_comeNew_X2_makeRoom : GoodIn wsX2_comeNew (wsV RX2 63 RX2 yX2_makeRoom wsX2_makeRoom) := goodIn_app (goodIn_of _ (by decide +kernel)) ggX2_comeNew_X2_makeRoom
set_option maxRecDepth 20000 in
theorem ggX2_comeNew_X2_go : GoodIn wsX2_comeNew wsX2_go := goodIn_r _ [25, 26, 27, 28, 29, 6, 30, 31, 32, 33, 38, 39, 40, 41, 42, 43, 44, 45, 46, 47] (by decide +kernel) (by decide +kernel)
set_option maxRecDepth 20000 in
theorem gX2_comeNew_X2_go : GoodIn wsX2_comeNew (wsV RX2 56 RX2 yX2_go wsX2_go) := goodIn_app (goodIn_of _ (by decide +kernel)) ggX2_comeNew_X2_go
set_option maxRecDepth 20000 in
theorem ggX2_comeNew_X2_come : GoodIn wsX2_comeNew wsX2_come := goodIn_r _ [37, 1, 8, 9, 10, 11, 6, 12, 13, 14, 15, 16, 38, 39, 40, 41, 42, 43, 44, 45, 46, 47] (by decide +kernel) (by decide +kernel)
set_option maxRecDepth 20000 in
theorem gX2_comeNew_X2_come : GoodIn wsX2_comeNew (wsV RX2 59 RX2 yX2_come wsX2_come) := goodIn_app (goodIn_of _ (by decide +kernel)) ggX2_comeNew_X2_come
theorem dX2_comeNew_0 : decode cX2_comeNew 0 = .ok (.aload_n 0, 1) := by decide +kernel
theorem dX2_comeNew_1 : decode cX2_comeNew 1 = .ok (.getfield 13, 3) := by decide +kernel
theorem dX2_comeNew_4 : decode cX2_comeNew 4 = .ok (.iconst 1, 1) := by decide +kernel
theorem dX2_comeNew_5 : decode cX2_comeNew 5 = .ok (.iaload, 1) := by decide +kernel
theorem dX2_comeNew_6 : decode cX2_comeNew 6 = .ok (.aload_n 0, 1) := by decide +kernel
theorem dX2_comeNew_7 : decode cX2_comeNew 7 = .ok (.getfield 13, 3) := by decide +kernel
theorem dX2_comeNew_10 : decode cX2_comeNew 10 = .ok (.iconst 3, 1) := by decide +kernel
theorem dX2_comeNew_11 : decode cX2_comeNew 11 = .ok (.iaload, 1) := by decide +kernel
theorem dX2_comeNew_12 : decode cX2_comeNew 12 = .ok (.iadd, 1) := by decide +kernel
theorem dX2_comeNew_13 : decode cX2_comeNew 13 = .ok (.aload_n 0, 1) := by decide +kernel
theorem dX2_comeNew_14 : decode cX2_comeNew 14 = .ok (.getfield 26, 3) := by decide +kernel
theorem dX2_comeNew_17 : decode cX2_comeNew 17 = .ok (.if_icmp .ne 54, 3) := by decide +kernel
theorem dX2_comeNew_20 : decode cX2_comeNew 20 = .ok (.aload_n 0, 1) := by decide +kernel
theorem dX2_comeNew_21 : decode cX2_comeNew 21 = .ok (.getfield 13, 3) := by decide +kernel
theorem dX2_comeNew_24 : decode cX2_comeNew 24 = .ok (.iconst 1, 1) := by decide +kernel
theorem dX2_comeNew_25 : decode cX2_comeNew 25 = .ok (.iaload, 1) := by decide +kernel
theorem dX2_comeNew_26 : decode cX2_comeNew 26 = .ok (.aload_n 0, 1) := by decide +kernel
theorem dX2_comeNew_27 : decode cX2_comeNew 27 = .ok (.getfield 26, 3) := by decide +kernel
theorem dX2_comeNew_30 : decode cX2_comeNew 30 = .ok (.if_icmp .ge 20, 3) := by decide +kernel
theorem dX2_comeNew_33 : decode cX2_comeNew 33 = .ok (.aload_n 0, 1) := by decide +kernel
theorem dX2_comeNew_34 : decode cX2_comeNew 34 = .ok (.aload_n 0, 1) := by decide +kernel
theorem dX2_comeNew_35 : decode cX2_comeNew 35 = .ok (.iconst 3, 1) := by decide +kernel
theorem dX2_comeNew_36 : decode cX2_comeNew 36 = .ok (.invokevirtual 53, 3) := by decide +kernel
theorem dX2_comeNew_39 : decode cX2_comeNew 39 = .ok (.invokevirtual 46, 3) := by decide +kernel
theorem dX2_comeNew_42 : decode cX2_comeNew 42 = .ok (.aload_n 0, 1) := by decide +kernel
theorem dX2_comeNew_43 : decode cX2_comeNew 43 = .ok (.iload_n 1, 1) := by decide +kernel
theorem dX2_comeNew_44 : decode cX2_comeNew 44 = .ok (.invokevirtual 63, 3) := by decide +kernel
theorem dX2_comeNew_47 : decode cX2_comeNew 47 = .ok (.goto 84, 3) := by decide +kernel
theorem dX2_comeNew_50 : decode cX2_comeNew 50 = .ok (.aload_n 0, 1) := by decide +kernel
theorem dX2_comeNew_51 : decode cX2_comeNew 51 = .ok (.aload_n 0, 1) := by decide +kernel
theorem dX2_comeNew_52 : decode cX2_comeNew 52 = .ok (.iconst 1, 1) := by decide +kernel
theorem dX2_comeNew_53 : decode cX2_comeNew 53 = .ok (.invokevirtual 53, 3) := by decide +kernel
theorem dX2_comeNew_56 : decode cX2_comeNew 56 = .ok (.invokevirtual 56, 3) := by decide +kernel
theorem dX2_comeNew_59 : decode cX2_comeNew 59 = .ok (.aload_n 0, 1) := by decide +kernel
theorem dX2_comeNew_60 : decode cX2_comeNew 60 = .ok (.aload_n 0, 1) := by decide +kernel
theorem dX2_comeNew_61 : decode cX2_comeNew 61 = .ok (.iconst 1, 1) := by decide +kernel
theorem dX2_comeNew_62 : decode cX2_comeNew 62 = .ok (.invokevirtual 53, 3) := by decide +kernel
theorem dX2_comeNew_65 : decode cX2_comeNew 65 = .ok (.invokevirtual 46, 3) := by decide +kernel
theorem dX2_comeNew_68 : decode cX2_comeNew 68 = .ok (.goto 63, 3) := by decide +kernel
theorem dX2_comeNew_71 : decode cX2_comeNew 71 = .ok (.aload_n 0, 1) := by decide +kernel
theorem dX2_comeNew_72 : decode cX2_comeNew 72 = .ok (.getfield 13, 3) := by decide +kernel
theorem dX2_comeNew_75 : decode cX2_comeNew 75 = .ok (.iconst 1, 1) := by decide +kernel
theorem dX2_comeNew_76 : decode cX2_comeNew 76 = .ok (.iaload, 1) := by decide +kernel
theorem dX2_comeNew_77 : decode cX2_comeNew 77 = .ok (.aload_n 0, 1) := by decide +kernel
theorem dX2_comeNew_78 : decode cX2_comeNew 78 = .ok (.getfield 13, 3) := by decide +kernel
theorem dX2_comeNew_81 : decode cX2_comeNew 81 = .ok (.iconst 2, 1) := by decide +kernel
theorem dX2_comeNew_82 : decode cX2_comeNew 82 = .ok (.iaload, 1) := by decide +kernel
theorem dX2_comeNew_83 : decode cX2_comeNew 83 = .ok (.iadd, 1) := by decide +kernel
theorem dX2_comeNew_84 : decode cX2_comeNew 84 = .ok (.aload_n 0, 1) := by decide +kernel
theorem dX2_comeNew_85 : decode cX2_comeNew 85 = .ok (.getfield 13, 3) := by decide +kernel
theorem dX2_comeNew_88 : decode cX2_comeNew 88 = .ok (.iconst 3, 1) := by decide +kernel
theorem dX2_comeNew_89 : decode cX2_comeNew 89 = .ok (.iaload, 1) := by decide +kernel
theorem dX2_comeNew_90 : decode cX2_comeNew 90 = .ok (.iadd, 1) := by decide +kernel
theorem dX2_comeNew_91 : decode cX2_comeNew 91 = .ok (.aload_n 0, 1) := by decide +kernel
theorem dX2_comeNew_92 : decode cX2_comeNew 92 = .ok (.getfield 13, 3) := by decide +kernel
theorem dX2_comeNew_95 : decode cX2_comeNew 95 = .ok (.iconst 4, 1) := by decide +kernel
theorem dX2_comeNew_96 : decode cX2_comeNew 96 = .ok (.iaload, 1) := by decide +kernel
theorem dX2_comeNew_97 : decode cX2_comeNew 97 = .ok (.iadd, 1) := by decide +kernel
theorem dX2_comeNew_98 : decode cX2_comeNew 98 = .ok (.istore_n 2, 1) := by decide +kernel
theorem dX2_comeNew_99 : decode cX2_comeNew 99 = .ok (.iload_n 2, 1) := by decide +kernel
theorem dX2_comeNew_100 : decode cX2_comeNew 100 = .ok (.aload_n 0, 1) := by decide +kernel
theorem dX2_comeNew_101 : decode cX2_comeNew 101 = .ok (.getfield 26, 3) := by decide +kernel
theorem dX2_comeNew_104 : decode cX2_comeNew 104 = .ok (.if_icmp .lt 27, 3) := by decide +kernel
theorem dX2_comeNew_107 : decode cX2_comeNew 107 = .ok (.iload_n 2, 1) := by decide +kernel
theorem dX2_comeNew_108 : decode cX2_comeNew 108 = .ok (.iconst 2, 1) := by decide +kernel
theorem dX2_comeNew_109 : decode cX2_comeNew 109 = .ok (.aload_n 0, 1) := by decide +kernel
theorem dX2_comeNew_110 : decode cX2_comeNew 110 = .ok (.getfield 26, 3) := by decide +kernel
theorem dX2_comeNew_113 : decode cX2_comeNew 113 = .ok (.imul, 1) := by decide +kernel
theorem dX2_comeNew_114 : decode cX2_comeNew 114 = .ok (.if_icmp .ne 12, 3) := by decide +kernel
theorem dX2_comeNew_117 : decode cX2_comeNew 117 = .ok (.aload_n 0, 1) := by decide +kernel
theorem dX2_comeNew_118 : decode cX2_comeNew 118 = .ok (.aload_n 0, 1) := by decide +kernel
theorem dX2_comeNew_119 : decode cX2_comeNew 119 = .ok (.iconst 4, 1) := by decide +kernel
theorem dX2_comeNew_120 : decode cX2_comeNew 120 = .ok (.invokevirtual 53, 3) := by decide +kernel
theorem dX2_comeNew_123 : decode cX2_comeNew 123 = .ok (.invokevirtual 46, 3) := by decide +kernel
theorem dX2_comeNew_126 : decode cX2_comeNew 126 = .ok (.aload_n 0, 1) := by decide +kernel
theorem dX2_comeNew_127 : decode cX2_comeNew 127 = .ok (.iload_n 1, 1) := by decide +kernel
theorem dX2_comeNew_128 : decode cX2_comeNew 128 = .ok (.invokevirtual 63, 3) := by decide +kernel
theorem dX2_comeNew_131 : decode cX2_comeNew 131 = .ok (.aload_n 0, 1) := by decide +kernel
theorem dX2_comeNew_132 : decode cX2_comeNew 132 = .ok (.iload_n 1, 1) := by decide +kernel
theorem dX2_comeNew_133 : decode cX2_comeNew 133 = .ok (.iconst 1, 1) := by decide +kernel
theorem dX2_comeNew_134 : decode cX2_comeNew 134 = .ok (.invokevirtual 59, 3) := by decide +kernel
theorem dX2_comeNew_137 : decode cX2_comeNew 137 = .ok (.return_, 1) := by decide +kernel
set_option maxRecDepth 20000 in
theorem ggX2_request_X2_whichList : GoodIn wsX2_request wsX2_whichList := goodIn_r _ [13, 3, 14, 44, 45, 46, 47, 48, 49, 50, 51, 52, 53] (by decide +kernel) (by decide +kernel)
set_option maxRecDepth 20000 in
theorem gX2_request_X2_whichList : GoodIn wsX2_request (wsV RX2 42 RX2 yX2_whichList wsX2_whichList) := goodIn_app (goodIn_of _ (by decide +kernel)) ggX2_request_X2_whichList
set_option maxRecDepth 20000 in
theorem ggX2_request_X2_come : GoodIn wsX2_request wsX2_come := goodIn_r _ [18, 3, 14, 19, 20, 21, 12, 22, 9, 10, 11, 13, 44, 45, 46, 47, 48, 49, 50, 51, 52, 53] (by decide +kernel) (by decide +kernel)
set_option maxRecDepth 20000 in
theorem gX2_request_X2_come : GoodIn wsX2_request (wsV RX2 59 RX2 yX2_come wsX2_come) := goodIn_app (goodIn_of _ (by decide +kernel)) ggX2_request_X2_come
set_option maxRecDepth 20000 in
theorem ggX2_request_X2_comeNew : GoodIn wsX2_request wsX2_comeNew := goodIn_r _ [26, 3, 5, 27, 28, 29, 12, 30, 14, 19, 20, 21, 22, 9, 10, 11, 13, 31, 32, 33, 34, 4, 35, 36, 37, 38, 39, 40, 41, 42, 43, 7, 8, 6, 15, 16, 17, 18, 44, 45, 46, 47, 48, 49, 50, 51, 52, 53] (by decide +kernel) (by decide +kernel)
set_option maxRecDepth 20000 in
theorem gX2_request_X2_comeNew : GoodIn wsX2_request (wsV RX2 66 RX2 yX2_comeNew wsX2_comeNew) := goodIn_app (goodIn_of _ (by decide +kernel)) ggX2_request_X2_comeNew
set_option maxRecDepth 20000 in
theorem ggX2_request_X2_makeRoom : GoodIn wsX2_request wsX2_makeRoom := goodIn_r _ [34, 3, 4, 9, 10, 11, 12, 13, 14, 27, 28, 29, 30, 35, 36, 37, 38, 39, 40, 41, 42, 43, 7, 8, 6, 15, 16, 17, 18, 19, 20, 21, 22, 44, 45, 46, 47, 48, 49, 50, 51, 52, 53] (by decide +kernel) (by decide +kernel)
set_option maxRecDepth 20000 in
theorem gX2_request_X2_makeRoom : GoodIn wsX2_request (wsV RX2 63 RX2 yX2_makeRoom wsX2_makeRoom) := goodIn_app (goodIn_of _ (by decide +kernel)) ggX2_request_X2_makeRoom
theorem dX2_request_0 : decode cX2_request 0 = .ok (.aload_n 0, 1) := by decide +kernel
theorem dX2_request_1 : decode cX2_request 1 = .ok (.iload_n 1, 1) := by decide +kernel
theorem dX2_request_2 : decode cX2_request 2 = .ok (.invokevirtual 42, 3) := by decide +kernel
theorem dX2_request_5 : decode cX2_request 5 = .ok (.istore_n 2, 1) := by decide +kernel
theorem dX2_request_6 : decode cX2_request 6 = .ok (.iload_n 2, 1) := by decide +kernel
theorem dX2_request_7 : decode cX2_request 7 = .ok (.iconst 1, 1) := by decide +kernel
theorem dX2_request_8 : decode cX2_request 8 = .ok (.if_icmp .eq 8, 3) := by decide +kernel
theorem dX2_request_11 : decode cX2_request 11 = .ok (.iload_n 2, 1) := by decide +kernel
theorem dX2_request_12 : decode cX2_request 12 = .ok (.iconst 2, 1) := by decide +kernel
theorem dX2_request_13 : decode cX2_request 13 = .ok (.if_icmp .ne 20, 3) := by decide +kernel
theorem dX2_request_16 : decode cX2_request 16 = .ok (.aload_n 0, 1) := by decide +kernel
theorem dX2_request_17 : decode cX2_request 17 = .ok (.dup, 1) := by decide +kernel
theorem dX2_request_18 : decode cX2_request 18 = .ok (.getfield 33, 3) := by decide +kernel
theorem dX2_request_21 : decode cX2_request 21 = .ok (.iconst 1, 1) := by decide +kernel
theorem dX2_request_22 : decode cX2_request 22 = .ok (.iadd, 1) := by decide +kernel
theorem dX2_request_23 : decode cX2_request 23 = .ok (.putfield 33, 3) := by decide +kernel
theorem dX2_request_26 : decode cX2_request 26 = .ok (.aload_n 0, 1) := by decide +kernel
theorem dX2_request_27 : decode cX2_request 27 = .ok (.iload_n 1, 1) := by decide +kernel
theorem dX2_request_28 : decode cX2_request 28 = .ok (.iconst 2, 1) := by decide +kernel
theorem dX2_request_29 : decode cX2_request 29 = .ok (.invokevirtual 59, 3) := by decide +kernel
theorem dX2_request_32 : decode cX2_request 32 = .ok (.return_, 1) := by decide +kernel
theorem dX2_request_33 : decode cX2_request 33 = .ok (.aload_n 0, 1) := by decide +kernel
theorem dX2_request_34 : decode cX2_request 34 = .ok (.dup, 1) := by decide +kernel
theorem dX2_request_35 : decode cX2_request 35 = .ok (.getfield 36, 3) := by decide +kernel
theorem dX2_request_38 : decode cX2_request 38 = .ok (.iconst 1, 1) := by decide +kernel
theorem dX2_request_39 : decode cX2_request 39 = .ok (.iadd, 1) := by decide +kernel
theorem dX2_request_40 : decode cX2_request 40 = .ok (.putfield 36, 3) := by decide +kernel
theorem dX2_request_43 : decode cX2_request 43 = .ok (.iload_n 2, 1) := by decide +kernel
theorem dX2_request_44 : decode cX2_request 44 = .ok (.iconst 3, 1) := by decide +kernel
theorem dX2_request_45 : decode cX2_request 45 = .ok (.if_icmp .ne 65, 3) := by decide +kernel
theorem dX2_request_48 : decode cX2_request 48 = .ok (.aload_n 0, 1) := by decide +kernel
theorem dX2_request_49 : decode cX2_request 49 = .ok (.getfield 13, 3) := by decide +kernel
theorem dX2_request_52 : decode cX2_request 52 = .ok (.iconst 4, 1) := by decide +kernel
theorem dX2_request_53 : decode cX2_request 53 = .ok (.iaload, 1) := by decide +kernel
theorem dX2_request_54 : decode cX2_request 54 = .ok (.aload_n 0, 1) := by decide +kernel
theorem dX2_request_55 : decode cX2_request 55 = .ok (.getfield 13, 3) := by decide +kernel
theorem dX2_request_58 : decode cX2_request 58 = .ok (.iconst 3, 1) := by decide +kernel
theorem dX2_request_59 : decode cX2_request 59 = .ok (.iaload, 1) := by decide +kernel
theorem dX2_request_60 : decode cX2_request 60 = .ok (.idiv, 1) := by decide +kernel
theorem dX2_request_61 : decode cX2_request 61 = .ok (.istore_n 3, 1) := by decide +kernel
theorem dX2_request_62 : decode cX2_request 62 = .ok (.aload_n 0, 1) := by decide +kernel
theorem dX2_request_63 : decode cX2_request 63 = .ok (.dup, 1) := by decide +kernel
theorem dX2_request_64 : decode cX2_request 64 = .ok (.getfield 30, 3) := by decide +kernel
theorem dX2_request_67 : decode cX2_request 67 = .ok (.iload_n 3, 1) := by decide +kernel
theorem dX2_request_68 : decode cX2_request 68 = .ok (.iconst 1, 1) := by decide +kernel
theorem dX2_request_69 : decode cX2_request 69 = .ok (.if_icmp .ge 7, 3) := by decide +kernel
theorem dX2_request_72 : decode cX2_request 72 = .ok (.iconst 1, 1) := by decide +kernel
theorem dX2_request_73 : decode cX2_request 73 = .ok (.goto 4, 3) := by decide +kernel
theorem dX2_request_76 : decode cX2_request 76 = .ok (.iload_n 3, 1) := by decide +kernel
theorem dX2_request_77 : decode cX2_request 77 = .ok (.iadd, 1) := by decide +kernel
theorem dX2_request_78 : decode cX2_request 78 = .ok (.putfield 30, 3) := by decide +kernel
theorem dX2_request_81 : decode cX2_request 81 = .ok (.aload_n 0, 1) := by decide +kernel
theorem dX2_request_82 : decode cX2_request 82 = .ok (.aload_n 0, 1) := by decide +kernel
theorem dX2_request_83 : decode cX2_request 83 = .ok (.getfield 30, 3) := by decide +kernel
theorem dX2_request_86 : decode cX2_request 86 = .ok (.aload_n 0, 1) := by decide +kernel
theorem dX2_request_87 : decode cX2_request 87 = .ok (.getfield 26, 3) := by decide +kernel
theorem dX2_request_90 : decode cX2_request 90 = .ok (.if_icmp .le 10, 3) := by decide +kernel
theorem dX2_request_93 : decode cX2_request 93 = .ok (.aload_n 0, 1) := by decide +kernel
theorem dX2_request_94 : decode cX2_request 94 = .ok (.getfield 26, 3) := by decide +kernel
theorem dX2_request_97 : decode cX2_request 97 = .ok (.goto 7, 3) := by decide +kernel
theorem dX2_request_100 : decode cX2_request 100 = .ok (.aload_n 0, 1) := by decide +kernel
theorem dX2_request_101 : decode cX2_request 101 = .ok (.getfield 30, 3) := by decide +kernel
theorem dX2_request_104 : decode cX2_request 104 = .ok (.putfield 30, 3) := by decide +kernel
theorem dX2_request_107 : decode cX2_request 107 = .ok (.goto 60, 3) := by decide +kernel
theorem dX2_request_110 : decode cX2_request 110 = .ok (.iload_n 2, 1) := by decide +kernel
theorem dX2_request_111 : decode cX2_request 111 = .ok (.iconst 4, 1) := by decide +kernel
theorem dX2_request_112 : decode cX2_request 112 = .ok (.if_icmp .ne 55, 3) := by decide +kernel
theorem dX2_request_115 : decode cX2_request 115 = .ok (.aload_n 0, 1) := by decide +kernel
theorem dX2_request_116 : decode cX2_request 116 = .ok (.getfield 13, 3) := by decide +kernel
theorem dX2_request_119 : decode cX2_request 119 = .ok (.iconst 3, 1) := by decide +kernel
theorem dX2_request_120 : decode cX2_request 120 = .ok (.iaload, 1) := by decide +kernel
theorem dX2_request_121 : decode cX2_request 121 = .ok (.aload_n 0, 1) := by decide +kernel
theorem dX2_request_122 : decode cX2_request 122 = .ok (.getfield 13, 3) := by decide +kernel
theorem dX2_request_125 : decode cX2_request 125 = .ok (.iconst 4, 1) := by decide +kernel
theorem dX2_request_126 : decode cX2_request 126 = .ok (.iaload, 1) := by decide +kernel
theorem dX2_request_127 : decode cX2_request 127 = .ok (.idiv, 1) := by decide +kernel
theorem dX2_request_128 : decode cX2_request 128 = .ok (.istore_n 3, 1) := by decide +kernel
theorem dX2_request_129 : decode cX2_request 129 = .ok (.aload_n 0, 1) := by decide +kernel
theorem dX2_request_130 : decode cX2_request 130 = .ok (.dup, 1) := by decide +kernel
theorem dX2_request_131 : decode cX2_request 131 = .ok (.getfield 30, 3) := by decide +kernel
theorem dX2_request_134 : decode cX2_request 134 = .ok (.iload_n 3, 1) := by decide +kernel
theorem dX2_request_135 : decode cX2_request 135 = .ok (.iconst 1, 1) := by decide +kernel
theorem dX2_request_136 : decode cX2_request 136 = .ok (.if_icmp .ge 7, 3) := by decide +kernel
theorem dX2_request_139 : decode cX2_request 139 = .ok (.iconst 1, 1) := by decide +kernel
theorem dX2_request_140 : decode cX2_request 140 = .ok (.goto 4, 3) := by decide +kernel
theorem dX2_request_143 : decode cX2_request 143 = .ok (.iload_n 3, 1) := by decide +kernel
theorem dX2_request_144 : decode cX2_request 144 = .ok (.isub, 1) := by decide +kernel
theorem dX2_request_145 : decode cX2_request 145 = .ok (.putfield 30, 3) := by decide +kernel
theorem dX2_request_148 : decode cX2_request 148 = .ok (.aload_n 0, 1) := by decide +kernel
theorem dX2_request_149 : decode cX2_request 149 = .ok (.aload_n 0, 1) := by decide +kernel
theorem dX2_request_150 : decode cX2_request 150 = .ok (.getfield 30, 3) := by decide +kernel
theorem dX2_request_153 : decode cX2_request 153 = .ok (.ifCond .ge 7, 3) := by decide +kernel
theorem dX2_request_156 : decode cX2_request 156 = .ok (.iconst 0, 1) := by decide +kernel
theorem dX2_request_157 : decode cX2_request 157 = .ok (.goto 7, 3) := by decide +kernel
theorem dX2_request_160 : decode cX2_request 160 = .ok (.aload_n 0, 1) := by decide +kernel
theorem dX2_request_161 : decode cX2_request 161 = .ok (.getfield 30, 3) := by decide +kernel
theorem dX2_request_164 : decode cX2_request 164 = .ok (.putfield 30, 3) := by decide +kernel
theorem dX2_request_167 : decode cX2_request 167 = .ok (.iload_n 2, 1) := by decide +kernel
theorem dX2_request_168 : decode cX2_request 168 = .ok (.ifCond .ne 11, 3) := by decide +kernel
theorem dX2_request_171 : decode cX2_request 171 = .ok (.aload_n 0, 1) := by decide +kernel
theorem dX2_request_172 : decode cX2_request 172 = .ok (.iload_n 1, 1) := by decide +kernel
theorem dX2_request_173 : decode cX2_request 173 = .ok (.invokevirtual 66, 3) := by decide +kernel
theorem dX2_request_176 : decode cX2_request 176 = .ok (.goto 14, 3) := by decide +kernel
theorem dX2_request_179 : decode cX2_request 179 = .ok (.aload_n 0, 1) := by decide +kernel
theorem dX2_request_180 : decode cX2_request 180 = .ok (.iload_n 1, 1) := by decide +kernel
theorem dX2_request_181 : decode cX2_request 181 = .ok (.invokevirtual 63, 3) := by decide +kernel
theorem dX2_request_184 : decode cX2_request 184 = .ok (.aload_n 0, 1) := by decide +kernel
theorem dX2_request_185 : decode cX2_request 185 = .ok (.iload_n 1, 1) := by decide +kernel
theorem dX2_request_186 : decode cX2_request 186 = .ok (.iconst 2, 1) := by decide +kernel
theorem dX2_request_187 : decode cX2_request 187 = .ok (.invokevirtual 59, 3) := by decide +kernel
theorem dX2_request_190 : decode cX2_request 190 = .ok (.aload_n 0, 1) := by decide +kernel
theorem dX2_request_191 : decode cX2_request 191 = .ok (.getfield 19, 3) := by decide +kernel
theorem dX2_request_194 : decode cX2_request 194 = .ok (.iload_n 1, 1) := by decide +kernel
theorem dX2_request_195 : decode cX2_request 195 = .ok (.aload_n 0, 1) := by decide +kernel
theorem dX2_request_196 : decode cX2_request 196 = .ok (.getfield 16, 3) := by decide +kernel
theorem dX2_request_199 : decode cX2_request 199 = .ok (.iload_n 1, 1) := by decide +kernel
theorem dX2_request_200 : decode cX2_request 200 = .ok (.iaload, 1) := by decide +kernel
theorem dX2_request_201 : decode cX2_request 201 = .ok (.iastore, 1) := by decide +kernel
theorem dX2_request_202 : decode cX2_request 202 = .ok (.aload_n 0, 1) := by decide +kernel
theorem dX2_request_203 : decode cX2_request 203 = .ok (.getfield 22, 3) := by decide +kernel
theorem dX2_request_206 : decode cX2_request 206 = .ok (.iload_n 1, 1) := by decide +kernel
theorem dX2_request_207 : decode cX2_request 207 = .ok (.iconst 0, 1) := by decide +kernel
theorem dX2_request_208 : decode cX2_request 208 = .ok (.bastore, 1) := by decide +kernel
theorem dX2_request_209 : decode cX2_request 209 = .ok (.return_, 1) := by decide +kernel
set_option maxRecDepth 20000 in
theorem ggX2_read_X2_isAddress : GoodIn wsX2_read wsX2_isAddress := goodIn_r _ [5] (by decide +kernel) (by decide +kernel)
set_option maxRecDepth 20000 in
theorem gX2_read_X2_isAddress : GoodIn wsX2_read (va_wsS RX2 69 yX2_isAddress wsX2_isAddress) := goodIn_app (goodIn_of _ (by decide +kernel)) ggX2_read_X2_isAddress
set_option maxRecDepth 20000 in
theorem ggX2_read_X2_request : GoodIn wsX2_read wsX2_request := goodIn_r _ [9, 10, 11, 12, 13, 14, 1, 15, 16, 17, 18, 19, 4, 20, 21, 22, 23, 24, 25, 26, 27, 28, 29, 30, 31, 32, 33, 34, 35, 36, 37, 38, 39, 40, 41, 42, 43, 44, 45, 46, 47, 48, 49, 50, 51, 52, 53, 54, 55, 56, 57, 58, 59, 60] (by decide +kernel) (by decide +kernel)
set_option maxRecDepth 20000 in
theorem gX2_read_X2_request : GoodIn wsX2_read (wsV RX2 73 RX2 yX2_request wsX2_request) := goodIn_app (goodIn_of _ (by decide +kernel)) ggX2_read_X2_request
theorem dX2_read_0 : decode cX2_read 0 = .ok (.iload_n 1, 1) := by decide +kernel
theorem dX2_read_1 : decode cX2_read 1 = .ok (.invokestatic 69, 3) := by decide +kernel
theorem dX2_read_4 : decode cX2_read 4 = .ok (.ifCond .ne 5, 3) := by decide +kernel
theorem dX2_read_7 : decode cX2_read 7 = .ok (.iconst 0, 1) := by decide +kernel
theorem dX2_read_8 : decode cX2_read 8 = .ok (.ireturn, 1) := by decide +kernel
theorem dX2_read_9 : decode cX2_read 9 = .ok (.aload_n 0, 1) := by decide +kernel
theorem dX2_read_10 : decode cX2_read 10 = .ok (.iload_n 1, 1) := by decide +kernel
theorem dX2_read_11 : decode cX2_read 11 = .ok (.invokevirtual 73, 3) := by decide +kernel
theorem dX2_read_14 : decode cX2_read 14 = .ok (.aload_n 0, 1) := by decide +kernel
theorem dX2_read_15 : decode cX2_read 15 = .ok (.getfield 19, 3) := by decide +kernel
theorem dX2_read_18 : decode cX2_read 18 = .ok (.iload_n 1, 1) := by decide +kernel
theorem dX2_read_19 : decode cX2_read 19 = .ok (.iaload, 1) := by decide +kernel
theorem dX2_read_20 : decode cX2_read 20 = .ok (.ireturn, 1) := by decide +kernel
set_option maxRecDepth 20000 in
theorem ggX2_write_X2_isAddress : GoodIn wsX2_write wsX2_isAddress := goodIn_r _ [6] (by decide +kernel) (by decide +kernel)
set_option maxRecDepth 20000 in
theorem gX2_write_X2_isAddress : GoodIn wsX2_write (va_wsS RX2 69 yX2_isAddress wsX2_isAddress) := goodIn_app (goodIn_of _ (by decide +kernel)) ggX2_write_X2_isAddress
set_option maxRecDepth 20000 in
theorem ggX2_write_X2_request : GoodIn wsX2_write wsX2_request := goodIn_r _ [10, 11, 12, 13, 14, 15, 1, 16, 2, 17, 18, 19, 5, 20, 21, 22, 23, 24, 25, 26, 27, 28, 29, 30, 31, 32, 33, 34, 35, 36, 37, 38, 39, 40, 41, 42, 43, 44, 45, 46, 47, 48, 49, 50, 51, 52, 53, 54, 55, 56, 57, 58, 59, 60] (by decide +kernel) (by decide +kernel)
set_option maxRecDepth 20000 in
theorem gX2_write_X2_request : GoodIn wsX2_write (wsV RX2 73 RX2 yX2_request wsX2_request) := goodIn_app (goodIn_of _ (by decide +kernel)) ggX2_write_X2_request
theorem dX2_write_0 : decode cX2_write 0 = .ok (.iload_n 1, 1) := by decide +kernel
theorem dX2_write_1 : decode cX2_write 1 = .ok (.invokestatic 69, 3) := by decide +kernel
theorem dX2_write_4 : decode cX2_write 4 = .ok (.ifCond .ne 5, 3) := by decide +kernel
theorem dX2_write_7 : decode cX2_write 7 = .ok (.iconst 0, 1) := by decide +kernel
theorem dX2_write_8 : decode cX2_write 8 = .ok (.ireturn, 1) := by decide +kernel
theorem dX2_write_9 : decode cX2_write 9 = .ok (.aload_n 0, 1) := by decide +kernel
theorem dX2_write_10 : decode cX2_write 10 = .ok (.iload_n 1, 1) := by decide +kernel
theorem dX2_write_11 : decode cX2_write 11 = .ok (.invokevirtual 73, 3) := by decide +kernel
theorem dX2_write_14 : decode cX2_write 14 = .ok (.aload_n 0, 1) := by decide +kernel
theorem dX2_write_15 : decode cX2_write 15 = .ok (.getfield 19, 3) := by decide +kernel
theorem dX2_write_18 : decode cX2_write 18 = .ok (.iload_n 1, 1) := by decide +kernel
theorem dX2_write_19 : decode cX2_write 19 = .ok (.iload_n 2, 1) := by decide +kernel
theorem dX2_write_20 : decode cX2_write 20 = .ok (.iastore, 1) := by decide +kernel
theorem dX2_write_21 : decode cX2_write 21 = .ok (.aload_n 0, 1) := by decide +kernel
theorem dX2_write_22 : decode cX2_write 22 = .ok (.getfield 22, 3) := by decide +kernel
theorem dX2_write_25 : decode cX2_write 25 = .ok (.iload_n 1, 1) := by decide +kernel
theorem dX2_write_26 : decode cX2_write 26 = .ok (.iconst 1, 1) := by decide +kernel
theorem dX2_write_27 : decode cX2_write 27 = .ok (.bastore, 1) := by decide +kernel
theorem dX2_write_28 : decode cX2_write 28 = .ok (.iconst 1, 1) := by decide +kernel
theorem dX2_write_29 : decode cX2_write 29 = .ok (.ireturn, 1) := by decide +kernel
set_option maxRecDepth 20000 in
theorem ggX2_flush_X2_clean : GoodIn wsX2_flush wsX2_clean := goodIn_r _ [6, 7, 1, 8, 9, 10, 11, 12, 13, 14, 15, 16, 17, 18] (by decide +kernel) (by decide +kernel)
set_option maxRecDepth 20000 in
theorem gX2_flush_X2_clean : GoodIn wsX2_flush (wsV RX2 50 RX2 yX2_clean wsX2_clean) := goodIn_app (goodIn_of _ (by decide +kernel)) ggX2_flush_X2_clean
theorem dX2_flush_0 : decode cX2_flush 0 = .ok (.iconst 0, 1) := by decide +kernel
theorem dX2_flush_1 : decode cX2_flush 1 = .ok (.istore_n 1, 1) := by decide +kernel
theorem dX2_flush_2 : decode cX2_flush 2 = .ok (.iconst 0, 1) := by decide +kernel
theorem dX2_flush_3 : decode cX2_flush 3 = .ok (.istore_n 2, 1) := by decide +kernel
theorem dX2_flush_4 : decode cX2_flush 4 = .ok (.iload_n 2, 1) := by decide +kernel
theorem dX2_flush_5 : decode cX2_flush 5 = .ok (.bipush 64, 2) := by decide +kernel
theorem dX2_flush_7 : decode cX2_flush 7 = .ok (.if_icmp .ge 31, 3) := by decide +kernel
theorem dX2_flush_10 : decode cX2_flush 10 = .ok (.iload_n 1, 1) := by decide +kernel
theorem dX2_flush_11 : decode cX2_flush 11 = .ok (.aload_n 0, 1) := by decide +kernel
theorem dX2_flush_12 : decode cX2_flush 12 = .ok (.getfield 22, 3) := by decide +kernel
theorem dX2_flush_15 : decode cX2_flush 15 = .ok (.iload_n 2, 1) := by decide +kernel
theorem dX2_flush_16 : decode cX2_flush 16 = .ok (.baload, 1) := by decide +kernel
theorem dX2_flush_17 : decode cX2_flush 17 = .ok (.ifCond .eq 7, 3) := by decide +kernel
theorem dX2_flush_20 : decode cX2_flush 20 = .ok (.iconst 1, 1) := by decide +kernel
theorem dX2_flush_21 : decode cX2_flush 21 = .ok (.goto 4, 3) := by decide +kernel
theorem dX2_flush_24 : decode cX2_flush 24 = .ok (.iconst 0, 1) := by decide +kernel
theorem dX2_flush_25 : decode cX2_flush 25 = .ok (.iadd, 1) := by decide +kernel
theorem dX2_flush_26 : decode cX2_flush 26 = .ok (.istore_n 1, 1) := by decide +kernel
theorem dX2_flush_27 : decode cX2_flush 27 = .ok (.aload_n 0, 1) := by decide +kernel
theorem dX2_flush_28 : decode cX2_flush 28 = .ok (.iload_n 2, 1) := by decide +kernel
theorem dX2_flush_29 : decode cX2_flush 29 = .ok (.invokevirtual 50, 3) := by decide +kernel
theorem dX2_flush_32 : decode cX2_flush 32 = .ok (.iinc 2 1, 3) := by decide +kernel
theorem dX2_flush_35 : decode cX2_flush 35 = .ok (.goto (-31), 3) := by decide +kernel
theorem dX2_flush_38 : decode cX2_flush 38 = .ok (.iload_n 1, 1) := by decide +kernel
theorem dX2_flush_39 : decode cX2_flush 39 = .ok (.ireturn, 1) := by decide +kernel
theorem dX2_at_0 : decode cX2_at 0 = .ok (.iload_n 1, 1) := by decide +kernel
theorem dX2_at_1 : decode cX2_at 1 = .ok (.iconst 1, 1) := by decide +kernel
theorem dX2_at_2 : decode cX2_at 2 = .ok (.if_icmp .lt 22, 3) := by decide +kernel
theorem dX2_at_5 : decode cX2_at 5 = .ok (.iload_n 1, 1) := by decide +kernel
theorem dX2_at_6 : decode cX2_at 6 = .ok (.iconst 4, 1) := by decide +kernel
theorem dX2_at_7 : decode cX2_at 7 = .ok (.if_icmp .gt 17, 3) := by decide +kernel
theorem dX2_at_10 : decode cX2_at 10 = .ok (.iload_n 2, 1) := by decide +kernel
theorem dX2_at_11 : decode cX2_at 11 = .ok (.ifCond .lt 13, 3) := by decide +kernel
theorem dX2_at_14 : decode cX2_at 14 = .ok (.iload_n 2, 1) := by decide +kernel
theorem dX2_at_15 : decode cX2_at 15 = .ok (.aload_n 0, 1) := by decide +kernel
theorem dX2_at_16 : decode cX2_at 16 = .ok (.getfield 13, 3) := by decide +kernel
theorem dX2_at_19 : decode cX2_at 19 = .ok (.iload_n 1, 1) := by decide +kernel
theorem dX2_at_20 : decode cX2_at 20 = .ok (.iaload, 1) := by decide +kernel
theorem dX2_at_21 : decode cX2_at 21 = .ok (.if_icmp .lt 7, 3) := by decide +kernel
theorem dX2_at_24 : decode cX2_at 24 = .ok (.iconst (-1), 1) := by decide +kernel
theorem dX2_at_25 : decode cX2_at 25 = .ok (.goto 14, 3) := by decide +kernel
theorem dX2_at_28 : decode cX2_at 28 = .ok (.aload_n 0, 1) := by decide +kernel
theorem dX2_at_29 : decode cX2_at 29 = .ok (.getfield 7, 3) := by decide +kernel
theorem dX2_at_32 : decode cX2_at 32 = .ok (.bipush 64, 2) := by decide +kernel
theorem dX2_at_34 : decode cX2_at 34 = .ok (.iload_n 1, 1) := by decide +kernel
theorem dX2_at_35 : decode cX2_at 35 = .ok (.imul, 1) := by decide +kernel
theorem dX2_at_36 : decode cX2_at 36 = .ok (.iload_n 2, 1) := by decide +kernel
theorem dX2_at_37 : decode cX2_at 37 = .ok (.iadd, 1) := by decide +kernel
theorem dX2_at_38 : decode cX2_at 38 = .ok (.iaload, 1) := by decide +kernel
theorem dX2_at_39 : decode cX2_at 39 = .ok (.ireturn, 1) := by decide +kernel
theorem dX2_length_0 : decode cX2_length 0 = .ok (.iload_n 1, 1) := by decide +kernel
theorem dX2_length_1 : decode cX2_length 1 = .ok (.iconst 1, 1) := by decide +kernel
theorem dX2_length_2 : decode cX2_length 2 = .ok (.if_icmp .lt 8, 3) := by decide +kernel
theorem dX2_length_5 : decode cX2_length 5 = .ok (.iload_n 1, 1) := by decide +kernel
theorem dX2_length_6 : decode cX2_length 6 = .ok (.iconst 4, 1) := by decide +kernel
theorem dX2_length_7 : decode cX2_length 7 = .ok (.if_icmp .le 7, 3) := by decide +kernel
theorem dX2_length_10 : decode cX2_length 10 = .ok (.iconst (-1), 1) := by decide +kernel
theorem dX2_length_11 : decode cX2_length 11 = .ok (.goto 9, 3) := by decide +kernel
theorem dX2_length_14 : decode cX2_length 14 = .ok (.aload_n 0, 1) := by decide +kernel
theorem dX2_length_15 : decode cX2_length 15 = .ok (.getfield 13, 3) := by decide +kernel
theorem dX2_length_18 : decode cX2_length 18 = .ok (.iload_n 1, 1) := by decide +kernel
theorem dX2_length_19 : decode cX2_length 19 = .ok (.iaload, 1) := by decide +kernel
theorem dX2_length_20 : decode cX2_length 20 = .ok (.ireturn, 1) := by decide +kernel
theorem dX2_target_0 : decode cX2_target 0 = .ok (.aload_n 0, 1) := by decide +kernel
theorem dX2_target_1 : decode cX2_target 1 = .ok (.getfield 30, 3) := by decide +kernel
theorem dX2_target_4 : decode cX2_target 4 = .ok (.ireturn, 1) := by decide +kernel
theorem dX2_hits_0 : decode cX2_hits 0 = .ok (.aload_n 0, 1) := by decide +kernel
theorem dX2_hits_1 : decode cX2_hits 1 = .ok (.getfield 33, 3) := by decide +kernel
theorem dX2_hits_4 : decode cX2_hits 4 = .ok (.ireturn, 1) := by decide +kernel
theorem dX2_misses_0 : decode cX2_misses 0 = .ok (.aload_n 0, 1) := by decide +kernel
theorem dX2_misses_1 : decode cX2_misses 1 = .ok (.getfield 36, 3) := by decide +kernel
theorem dX2_misses_4 : decode cX2_misses 4 = .ok (.ireturn, 1) := by decide +kernel
set_option maxRecDepth 20000 in
theorem ggX2_store_X2_isAddress : GoodIn wsX2_store wsX2_isAddress := goodIn_r _ [5] (by decide +kernel) (by decide +kernel)
set_option maxRecDepth 20000 in
theorem gX2_store_X2_isAddress : GoodIn wsX2_store (va_wsS RX2 69 yX2_isAddress wsX2_isAddress) := goodIn_app (goodIn_of _ (by decide +kernel)) ggX2_store_X2_isAddress
theorem dX2_store_0 : decode cX2_store 0 = .ok (.iload_n 1, 1) := by decide +kernel
theorem dX2_store_1 : decode cX2_store 1 = .ok (.invokestatic 69, 3) := by decide +kernel
theorem dX2_store_4 : decode cX2_store 4 = .ok (.ifCond .eq 12, 3) := by decide +kernel
theorem dX2_store_7 : decode cX2_store 7 = .ok (.aload_n 0, 1) := by decide +kernel
theorem dX2_store_8 : decode cX2_store 8 = .ok (.getfield 16, 3) := by decide +kernel
theorem dX2_store_11 : decode cX2_store 11 = .ok (.iload_n 1, 1) := by decide +kernel
theorem dX2_store_12 : decode cX2_store 12 = .ok (.iaload, 1) := by decide +kernel
theorem dX2_store_13 : decode cX2_store 13 = .ok (.goto 4, 3) := by decide +kernel
theorem dX2_store_16 : decode cX2_store 16 = .ok (.iconst 0, 1) := by decide +kernel
theorem dX2_store_17 : decode cX2_store 17 = .ok (.ireturn, 1) := by decide +kernel
set_option maxRecDepth 20000 in
theorem ggX2_isDirty_X2_isAddress : GoodIn wsX2_isDirty wsX2_isAddress := goodIn_r _ [5] (by decide +kernel) (by decide +kernel)
set_option maxRecDepth 20000 in
theorem gX2_isDirty_X2_isAddress : GoodIn wsX2_isDirty (va_wsS RX2 69 yX2_isAddress wsX2_isAddress) := goodIn_app (goodIn_of _ (by decide +kernel)) ggX2_isDirty_X2_isAddress
theorem dX2_isDirty_0 : decode cX2_isDirty 0 = .ok (.iload_n 1, 1) := by decide +kernel
theorem dX2_isDirty_1 : decode cX2_isDirty 1 = .ok (.invokestatic 69, 3) := by decide +kernel
theorem dX2_isDirty_4 : decode cX2_isDirty 4 = .ok (.ifCond .eq 16, 3) := by decide +kernel
theorem dX2_isDirty_7 : decode cX2_isDirty 7 = .ok (.aload_n 0, 1) := by decide +kernel
theorem dX2_isDirty_8 : decode cX2_isDirty 8 = .ok (.getfield 22, 3) := by decide +kernel
theorem dX2_isDirty_11 : decode cX2_isDirty 11 = .ok (.iload_n 1, 1) := by decide +kernel
theorem dX2_isDirty_12 : decode cX2_isDirty 12 = .ok (.baload, 1) := by decide +kernel
theorem dX2_isDirty_13 : decode cX2_isDirty 13 = .ok (.ifCond .eq 7, 3) := by decide +kernel
theorem dX2_isDirty_16 : decode cX2_isDirty 16 = .ok (.iconst 1, 1) := by decide +kernel
theorem dX2_isDirty_17 : decode cX2_isDirty 17 = .ok (.goto 4, 3) := by decide +kernel
theorem dX2_isDirty_20 : decode cX2_isDirty 20 = .ok (.iconst 0, 1) := by decide +kernel
theorem dX2_isDirty_21 : decode cX2_isDirty 21 = .ok (.ireturn, 1) := by decide +kernel
theorem dX2_gone_0 : decode cX2_gone 0 = .ok (.aload_n 0, 1) := by decide +kernel
theorem dX2_gone_1 : decode cX2_gone 1 = .ok (.getfield 39, 3) := by decide +kernel
theorem dX2_gone_4 : decode cX2_gone 4 = .ok (.ireturn, 1) := by decide +kernel
theorem dJ9_floorMod_7cf53_0 : decode cJ9_floorMod_7cf53 0 = .ok (.iload_n 0, 1) := by decide +kernel
theorem dJ9_floorMod_7cf53_1 : decode cJ9_floorMod_7cf53 1 = .ok (.iload_n 1, 1) := by decide +kernel
theorem dJ9_floorMod_7cf53_2 : decode cJ9_floorMod_7cf53 2 = .ok (.irem, 1) := by decide +kernel
theorem dJ9_floorMod_7cf53_3 : decode cJ9_floorMod_7cf53 3 = .ok (.istore_n 2, 1) := by decide +kernel
theorem dJ9_floorMod_7cf53_4 : decode cJ9_floorMod_7cf53 4 = .ok (.iload_n 0, 1) := by decide +kernel
theorem dJ9_floorMod_7cf53_5 : decode cJ9_floorMod_7cf53 5 = .ok (.iload_n 1, 1) := by decide +kernel
theorem dJ9_floorMod_7cf53_6 : decode cJ9_floorMod_7cf53 6 = .ok (.ixor, 1) := by decide +kernel
theorem dJ9_floorMod_7cf53_7 : decode cJ9_floorMod_7cf53 7 = .ok (.ifCond .ge 11, 3) := by decide +kernel
theorem dJ9_floorMod_7cf53_10 : decode cJ9_floorMod_7cf53 10 = .ok (.iload_n 2, 1) := by decide +kernel
theorem dJ9_floorMod_7cf53_11 : decode cJ9_floorMod_7cf53 11 = .ok (.ifCond .eq 7, 3) := by decide +kernel
theorem dJ9_floorMod_7cf53_14 : decode cJ9_floorMod_7cf53 14 = .ok (.iload_n 2, 1) := by decide +kernel
theorem dJ9_floorMod_7cf53_15 : decode cJ9_floorMod_7cf53 15 = .ok (.iload_n 1, 1) := by decide +kernel
theorem dJ9_floorMod_7cf53_16 : decode cJ9_floorMod_7cf53 16 = .ok (.iadd, 1) := by decide +kernel
theorem dJ9_floorMod_7cf53_17 : decode cJ9_floorMod_7cf53 17 = .ok (.ireturn, 1) := by decide +kernel
theorem dJ9_floorMod_7cf53_18 : decode cJ9_floorMod_7cf53 18 = .ok (.iload_n 2, 1) := by decide +kernel
theorem dJ9_floorMod_7cf53_19 : decode cJ9_floorMod_7cf53 19 = .ok (.ireturn, 1) := by decide +kernel
theorem dJ9_max_7cf53_0 : decode cJ9_max_7cf53 0 = .ok (.iload_n 0, 1) := by decide +kernel
theorem dJ9_max_7cf53_1 : decode cJ9_max_7cf53 1 = .ok (.iload_n 1, 1) := by decide +kernel
theorem dJ9_max_7cf53_2 : decode cJ9_max_7cf53 2 = .ok (.if_icmp .lt 7, 3) := by decide +kernel
theorem dJ9_max_7cf53_5 : decode cJ9_max_7cf53 5 = .ok (.iload_n 0, 1) := by decide +kernel
theorem dJ9_max_7cf53_6 : decode cJ9_max_7cf53 6 = .ok (.goto 4, 3) := by decide +kernel
theorem dJ9_max_7cf53_9 : decode cJ9_max_7cf53 9 = .ok (.iload_n 1, 1) := by decide +kernel
theorem dJ9_max_7cf53_10 : decode cJ9_max_7cf53 10 = .ok (.ireturn, 1) := by decide +kernel
theorem dJ9_min_7cf53_0 : decode cJ9_min_7cf53 0 = .ok (.iload_n 0, 1) := by decide +kernel
theorem dJ9_min_7cf53_1 : decode cJ9_min_7cf53 1 = .ok (.iload_n 1, 1) := by decide +kernel
theorem dJ9_min_7cf53_2 : decode cJ9_min_7cf53 2 = .ok (.if_icmp .gt 7, 3) := by decide +kernel
theorem dJ9_min_7cf53_5 : decode cJ9_min_7cf53 5 = .ok (.iload_n 0, 1) := by decide +kernel
theorem dJ9_min_7cf53_6 : decode cJ9_min_7cf53 6 = .ok (.goto 4, 3) := by decide +kernel
theorem dJ9_min_7cf53_9 : decode cJ9_min_7cf53 9 = .ok (.iload_n 1, 1) := by decide +kernel
theorem dJ9_min_7cf53_10 : decode cJ9_min_7cf53 10 = .ok (.ireturn, 1) := by decide +kernel
theorem dJ7_fill_53178_0 : decode cJ7_fill_53178 0 = .ok (.iconst 0, 1) := by decide +kernel
theorem dJ7_fill_53178_1 : decode cJ7_fill_53178 1 = .ok (.istore_n 2, 1) := by decide +kernel
theorem dJ7_fill_53178_2 : decode cJ7_fill_53178 2 = .ok (.aload_n 0, 1) := by decide +kernel
theorem dJ7_fill_53178_3 : decode cJ7_fill_53178 3 = .ok (.arraylength, 1) := by decide +kernel
theorem dJ7_fill_53178_4 : decode cJ7_fill_53178 4 = .ok (.istore_n 3, 1) := by decide +kernel
theorem dJ7_fill_53178_5 : decode cJ7_fill_53178 5 = .ok (.iload_n 2, 1) := by decide +kernel
theorem dJ7_fill_53178_6 : decode cJ7_fill_53178 6 = .ok (.iload_n 3, 1) := by decide +kernel
theorem dJ7_fill_53178_7 : decode cJ7_fill_53178 7 = .ok (.if_icmp .ge 13, 3) := by decide +kernel
theorem dJ7_fill_53178_10 : decode cJ7_fill_53178 10 = .ok (.aload_n 0, 1) := by decide +kernel
theorem dJ7_fill_53178_11 : decode cJ7_fill_53178 11 = .ok (.iload_n 2, 1) := by decide +kernel
theorem dJ7_fill_53178_12 : decode cJ7_fill_53178 12 = .ok (.iload_n 1, 1) := by decide +kernel
theorem dJ7_fill_53178_13 : decode cJ7_fill_53178 13 = .ok (.iastore, 1) := by decide +kernel
theorem dJ7_fill_53178_14 : decode cJ7_fill_53178 14 = .ok (.iinc 2 1, 3) := by decide +kernel
theorem dJ7_fill_53178_17 : decode cJ7_fill_53178 17 = .ok (.goto (-12), 3) := by decide +kernel
theorem dJ7_fill_53178_20 : decode cJ7_fill_53178 20 = .ok (.return_, 1) := by decide +kernel
theorem dL_cell_0 : decode cL_cell 0 = .ok (.iload_n 1, 1) := by decide +kernel
theorem dL_cell_1 : decode cL_cell 1 = .ok (.aload_n 0, 1) := by decide +kernel
theorem dL_cell_2 : decode cL_cell 2 = .ok (.arraylength, 1) := by decide +kernel
theorem dL_cell_3 : decode cL_cell 3 = .ok (.if_icmp .ge 9, 3) := by decide +kernel
theorem dL_cell_6 : decode cL_cell 6 = .ok (.aload_n 0, 1) := by decide +kernel
theorem dL_cell_7 : decode cL_cell 7 = .ok (.iload_n 1, 1) := by decide +kernel
theorem dL_cell_8 : decode cL_cell 8 = .ok (.iaload, 1) := by decide +kernel
theorem dL_cell_9 : decode cL_cell 9 = .ok (.goto 4, 3) := by decide +kernel
theorem dL_cell_12 : decode cL_cell 12 = .ok (.iconst 0, 1) := by decide +kernel
theorem dL_cell_13 : decode cL_cell 13 = .ok (.ireturn, 1) := by decide +kernel
set_option maxRecDepth 20000 in
theorem ggL_law_L_cell : GoodIn wsL_law wsL_cell := goodIn_r _ [9] (by decide +kernel) (by decide +kernel)
set_option maxRecDepth 20000 in
theorem gL_law_L_cell : GoodIn wsL_law (va_wsS RL 9 yL_cell wsL_cell) := goodIn_app (goodIn_of _ (by decide +kernel)) ggL_law_L_cell
set_option maxRecDepth 20000 in
theorem ggL_law_X1_init : GoodIn wsL_law wsX1_init := goodIn_r _ [12, 13, 14, 15, 16, 17, 18, 19, 20, 21, 22, 23, 24, 25, 26, 27, 28, 29, 30, 31, 32, 33, 34, 35, 36, 322, 323, 300, 301, 302, 303, 304, 305, 306, 307, 308, 309, 310, 311] (by decide +kernel) (by decide +kernel)
set_option maxRecDepth 20000 in
theorem gL_law_X1_init : GoodIn wsL_law (wsX1_init) := ggL_law_X1_init
set_option maxRecDepth 20000 in
theorem ggL_law_X2_init : GoodIn wsL_law wsX2_init := goodIn_r _ [39, 40, 14, 15, 23, 41, 42, 43, 44, 25, 45, 46, 312, 313, 314, 315, 316, 317, 318, 319, 320, 321] (by decide +kernel) (by decide +kernel)
set_option maxRecDepth 20000 in
theorem gL_law_X2_init : GoodIn wsL_law (wsX2_init) := ggL_law_X2_init
set_option maxRecDepth 20000 in
theorem ggL_law_X1_init_ : GoodIn wsL_law wsX1_init_ := goodIn_r _ [50, 19, 20, 21, 22, 24, 27, 26, 51, 52, 53, 54, 55, 56, 57, 18, 58, 59, 60, 61, 62, 63, 300, 301, 302, 303, 304, 305, 306, 307, 308, 309, 310, 311, 322, 323] (by decide +kernel) (by decide +kernel)
set_option maxRecDepth 20000 in
theorem gL_law_X1_init_ : GoodIn wsL_law (wsV RL 21 RX1 yX1_init_ wsX1_init_) := goodIn_app (goodIn_of _ (by decide +kernel)) ggL_law_X1_init_
set_option maxRecDepth 20000 in
theorem ggL_law_X2_init_ : GoodIn wsL_law wsX2_init_ := goodIn_r _ [67, 42, 43, 44, 45, 68, 69, 70, 71, 312, 313, 314, 315, 316, 317, 318, 319, 320, 321] (by decide +kernel) (by decide +kernel)
set_option maxRecDepth 20000 in
theorem gL_law_X2_init_ : GoodIn wsL_law (wsV RL 24 RX2 yX2_init_ wsX2_init_) := goodIn_app (goodIn_of _ (by decide +kernel)) ggL_law_X2_init_
set_option maxRecDepth 20000 in
theorem ggL_law_X1_read : GoodIn wsL_law wsX1_read := goodIn_r _ [75, 24, 76, 77, 2, 78, 79, 80, 81, 82, 52, 53, 19, 83, 84, 85, 86, 87, 88, 89, 90, 20, 21, 22, 91, 92, 93, 18, 94, 95, 96, 97, 98, 59, 32, 99, 100, 101, 102, 103, 104, 105, 106, 107, 108, 109, 110, 111, 112, 113, 114, 115, 116, 117, 118, 28, 119, 120, 121, 122, 123, 124, 125, 126, 127, 128, 129, 130, 131, 132, 133, 134, 26, 54, 135, 136, 137, 138, 27, 139, 140, 141, 142, 143, 144, 145, 146, 147, 148, 51, 149, 150, 151, 152, 153, 154, 155, 156, 157, 158, 159, 160, 161, 162, 163, 164, 165, 166, 167, 168, 169, 170, 300, 301, 302, 303, 304, 305, 306, 307, 308, 309, 310, 311, 322, 323] (by decide +kernel) (by decide +kernel)
set_option maxRecDepth 20000 in
theorem gL_law_X1_read : GoodIn wsL_law (wsV RL 25 RX1 yX1_read wsX1_read) := goodIn_app (goodIn_of _ (by decide +kernel)) ggL_law_X1_read
set_option maxRecDepth 20000 in
theorem ggL_law_X2_read : GoodIn wsL_law wsX2_read := goodIn_r _ [174, 44, 175, 176, 5, 177, 178, 179, 180, 181, 69, 70, 42, 68, 46, 43, 45, 182, 183, 184, 185, 41, 186, 187, 188, 189, 190, 191, 192, 193, 194, 195, 196, 197, 198, 199, 200, 201, 202, 203, 204, 205, 206, 207, 208, 209, 71, 210, 211, 212, 213, 312, 313, 314, 315, 316, 317, 318, 319, 320, 321] (by decide +kernel) (by decide +kernel)
set_option maxRecDepth 20000 in
theorem gL_law_X2_read : GoodIn wsL_law (wsV RL 29 RX2 yX2_read wsX2_read) := goodIn_app (goodIn_of _ (by decide +kernel)) ggL_law_X2_read
set_option maxRecDepth 20000 in
theorem ggL_law_X1_write : GoodIn wsL_law wsX1_write := goodIn_r _ [217, 24, 26, 76, 77, 2, 78, 79, 80, 81, 82, 52, 53, 19, 83, 84, 85, 86, 87, 88, 89, 90, 20, 21, 22, 91, 92, 93, 18, 94, 95, 96, 97, 98, 59, 32, 99, 100, 101, 102, 103, 104, 105, 106, 107, 108, 109, 110, 111, 112, 113, 114, 115, 116, 117, 118, 28, 119, 120, 121, 122, 123, 124, 125, 126, 127, 128, 129, 130, 131, 132, 133, 134, 54, 135, 136, 137, 138, 27, 139, 140, 141, 142, 143, 144, 145, 146, 147, 148, 51, 149, 150, 151, 152, 153, 154, 155, 156, 157, 158, 159, 160, 161, 162, 163, 164, 165, 166, 167, 168, 169, 170, 300, 301, 302, 303, 304, 305, 306, 307, 308, 309, 310, 311, 322, 323] (by decide +kernel) (by decide +kernel)
set_option maxRecDepth 20000 in
theorem gL_law_X1_write : GoodIn wsL_law (wsV RL 30 RX1 yX1_write wsX1_write) := goodIn_app (goodIn_of _ (by decide +kernel)) ggL_law_X1_write
set_option maxRecDepth 20000 in
theorem ggL_law_X2_write : GoodIn wsL_law wsX2_write := goodIn_r _ [221, 44, 45, 175, 176, 5, 177, 178, 179, 180, 181, 69, 70, 42, 68, 46, 43, 182, 183, 184, 185, 41, 186, 187, 188, 189, 190, 191, 192, 193, 194, 195, 196, 197, 198, 199, 200, 201, 202, 203, 204, 205, 206, 207, 208, 209, 71, 210, 211, 212, 213, 312, 313, 314, 315, 316, 317, 318, 319, 320, 321] (by decide +kernel) (by decide +kernel)
set_option maxRecDepth 20000 in
theorem gL_law_X2_write : GoodIn wsL_law (wsV RL 34 RX2 yX2_write wsX2_write) := goodIn_app (goodIn_of _ (by decide +kernel)) ggL_law_X2_write
set_option maxRecDepth 20000 in
theorem ggL_law_X1_flush : GoodIn wsL_law wsX1_flush := goodIn_r _ [225, 26, 135, 136, 137, 2, 138, 27, 24, 300, 301, 302, 303, 304, 305, 306, 307, 308, 309, 310, 311] (by decide +kernel) (by decide +kernel)
set_option maxRecDepth 20000 in
theorem gL_law_X1_flush : GoodIn wsL_law (wsV RL 35 RX1 yX1_flush wsX1_flush) := goodIn_app (goodIn_of _ (by decide +kernel)) ggL_law_X1_flush
set_option maxRecDepth 20000 in
theorem ggL_law_X2_flush : GoodIn wsL_law wsX2_flush := goodIn_r _ [229, 45, 210, 211, 212, 5, 213, 43, 44, 312, 313, 314, 315, 316, 317, 318, 319, 320, 321] (by decide +kernel) (by decide +kernel)
set_option maxRecDepth 20000 in
theorem gL_law_X2_flush : GoodIn wsL_law (wsV RL 39 RX2 yX2_flush wsX2_flush) := goodIn_app (goodIn_of _ (by decide +kernel)) ggL_law_X2_flush
set_option maxRecDepth 20000 in
theorem ggL_law_X1_whichList : GoodIn wsL_law wsX1_whichList := goodIn_r _ [86, 87, 88, 89, 2, 90, 19, 20, 21, 22, 91, 92, 93, 18, 94, 95, 96, 97, 98, 59, 32, 300, 301, 302, 303, 304, 305, 306, 307, 308, 309, 310, 311, 322, 323] (by decide +kernel) (by decide +kernel)
set_option maxRecDepth 20000 in
theorem gL_law_X1_whichList : GoodIn wsL_law (wsV RL 40 RX1 yX1_whichList wsX1_whichList) := goodIn_app (goodIn_of _ (by decide +kernel)) ggL_law_X1_whichList
set_option maxRecDepth 20000 in
theorem ggL_law_X2_whichList : GoodIn wsL_law wsX2_whichList := goodIn_r _ [185, 42, 41, 312, 313, 314, 315, 316, 317, 318, 319, 320, 321] (by decide +kernel) (by decide +kernel)
set_option maxRecDepth 20000 in
theorem gL_law_X2_whichList : GoodIn wsL_law (wsV RL 43 RX2 yX2_whichList wsX2_whichList) := goodIn_app (goodIn_of _ (by decide +kernel)) ggL_law_X2_whichList
set_option maxRecDepth 20000 in
theorem ggL_law_X1_at : GoodIn wsL_law wsX1_at := goodIn_r _ [235, 236, 237, 2, 238, 87, 88, 89, 90, 19, 20, 21, 22, 239, 128, 129, 18, 130, 59, 32, 300, 301, 302, 303, 304, 305, 306, 307, 308, 309, 310, 311, 322, 323] (by decide +kernel) (by decide +kernel)
set_option maxRecDepth 20000 in
theorem gL_law_X1_at : GoodIn wsL_law (wsV RL 44 RX1 yX1_at wsX1_at) := goodIn_app (goodIn_of _ (by decide +kernel)) ggL_law_X1_at
set_option maxRecDepth 20000 in
theorem ggL_law_X2_at : GoodIn wsL_law wsX2_at := goodIn_r _ [243, 42, 41, 312, 313, 314, 315, 316, 317, 318, 319, 320, 321] (by decide +kernel) (by decide +kernel)
set_option maxRecDepth 20000 in
theorem gL_law_X2_at : GoodIn wsL_law (wsV RL 48 RX2 yX2_at wsX2_at) := goodIn_app (goodIn_of _ (by decide +kernel)) ggL_law_X2_at
set_option maxRecDepth 20000 in
theorem ggL_law_X1_length : GoodIn wsL_law wsX1_length := goodIn_r _ [247, 236, 237, 2, 238, 87, 88, 89, 90, 19, 20, 21, 22, 119, 120, 121, 18, 122, 59, 300, 301, 302, 303, 304, 305, 306, 307, 308, 309, 310, 311, 322, 323] (by decide +kernel) (by decide +kernel)
set_option maxRecDepth 20000 in
theorem gL_law_X1_length : GoodIn wsL_law (wsV RL 49 RX1 yX1_length wsX1_length) := goodIn_app (goodIn_of _ (by decide +kernel)) ggL_law_X1_length
set_option maxRecDepth 20000 in
theorem ggL_law_X2_length : GoodIn wsL_law wsX2_length := goodIn_r _ [251, 42, 312, 313, 314, 315, 316, 317, 318, 319, 320, 321] (by decide +kernel) (by decide +kernel)
set_option maxRecDepth 20000 in
theorem gL_law_X2_length : GoodIn wsL_law (wsV RL 52 RX2 yX2_length wsX2_length) := goodIn_app (goodIn_of _ (by decide +kernel)) ggL_law_X2_length
set_option maxRecDepth 20000 in
theorem ggL_law_X1_target : GoodIn wsL_law wsX1_target := goodIn_r _ [255, 51, 300, 301, 302, 303, 304, 305, 306, 307, 308, 309, 310, 311] (by decide +kernel) (by decide +kernel)
set_option maxRecDepth 20000 in
theorem gL_law_X1_target : GoodIn wsL_law (wsV RL 53 RX1 yX1_target wsX1_target) := goodIn_app (goodIn_of _ (by decide +kernel)) ggL_law_X1_target
set_option maxRecDepth 20000 in
theorem ggL_law_X2_target : GoodIn wsL_law wsX2_target := goodIn_r _ [259, 68, 312, 313, 314, 315, 316, 317, 318, 319, 320, 321] (by decide +kernel) (by decide +kernel)
set_option maxRecDepth 20000 in
theorem gL_law_X2_target : GoodIn wsL_law (wsV RL 56 RX2 yX2_target wsX2_target) := goodIn_app (goodIn_of _ (by decide +kernel)) ggL_law_X2_target
set_option maxRecDepth 20000 in
theorem ggL_law_X1_hits : GoodIn wsL_law wsX1_hits := goodIn_r _ [263, 52, 300, 301, 302, 303, 304, 305, 306, 307, 308, 309, 310, 311] (by decide +kernel) (by decide +kernel)
set_option maxRecDepth 20000 in
theorem gL_law_X1_hits : GoodIn wsL_law (wsV RL 57 RX1 yX1_hits wsX1_hits) := goodIn_app (goodIn_of _ (by decide +kernel)) ggL_law_X1_hits
set_option maxRecDepth 20000 in
theorem ggL_law_X2_hits : GoodIn wsL_law wsX2_hits := goodIn_r _ [267, 69, 312, 313, 314, 315, 316, 317, 318, 319, 320, 321] (by decide +kernel) (by decide +kernel)
set_option maxRecDepth 20000 in
theorem gL_law_X2_hits : GoodIn wsL_law (wsV RL 60 RX2 yX2_hits wsX2_hits) := goodIn_app (goodIn_of _ (by decide +kernel)) ggL_law_X2_hits
set_option maxRecDepth 20000 in
theorem ggL_law_X1_misses : GoodIn wsL_law wsX1_misses := goodIn_r _ [271, 53, 300, 301, 302, 303, 304, 305, 306, 307, 308, 309, 310, 311] (by decide +kernel) (by decide +kernel)
set_option maxRecDepth 20000 in
theorem gL_law_X1_misses : GoodIn wsL_law (wsV RL 61 RX1 yX1_misses wsX1_misses) := goodIn_app (goodIn_of _ (by decide +kernel)) ggL_law_X1_misses
set_option maxRecDepth 20000 in
theorem ggL_law_X2_misses : GoodIn wsL_law wsX2_misses := goodIn_r _ [275, 70, 312, 313, 314, 315, 316, 317, 318, 319, 320, 321] (by decide +kernel) (by decide +kernel)
set_option maxRecDepth 20000 in
theorem gL_law_X2_misses : GoodIn wsL_law (wsV RL 64 RX2 yX2_misses wsX2_misses) := goodIn_app (goodIn_of _ (by decide +kernel)) ggL_law_X2_misses
set_option maxRecDepth 20000 in
theorem ggL_law_X1_store : GoodIn wsL_law wsX1_store := goodIn_r _ [279, 27, 76, 77, 2, 78, 300, 301, 302, 303, 304, 305, 306, 307, 308, 309, 310, 311] (by decide +kernel) (by decide +kernel)
set_option maxRecDepth 20000 in
theorem gL_law_X1_store : GoodIn wsL_law (wsV RL 65 RX1 yX1_store wsX1_store) := goodIn_app (goodIn_of _ (by decide +kernel)) ggL_law_X1_store
set_option maxRecDepth 20000 in
theorem ggL_law_X2_store : GoodIn wsL_law wsX2_store := goodIn_r _ [283, 43, 175, 176, 5, 177, 312, 313, 314, 315, 316, 317, 318, 319, 320, 321] (by decide +kernel) (by decide +kernel)
set_option maxRecDepth 20000 in
theorem gL_law_X2_store : GoodIn wsL_law (wsV RL 68 RX2 yX2_store wsX2_store) := goodIn_app (goodIn_of _ (by decide +kernel)) ggL_law_X2_store
set_option maxRecDepth 20000 in
theorem ggL_law_X1_isDirty : GoodIn wsL_law wsX1_isDirty := goodIn_r _ [287, 26, 76, 77, 2, 78, 300, 301, 302, 303, 304, 305, 306, 307, 308, 309, 310, 311] (by decide +kernel) (by decide +kernel)
set_option maxRecDepth 20000 in
theorem gL_law_X1_isDirty : GoodIn wsL_law (wsV RL 69 RX1 yX1_isDirty wsX1_isDirty) := goodIn_app (goodIn_of _ (by decide +kernel)) ggL_law_X1_isDirty
set_option maxRecDepth 20000 in
theorem ggL_law_X2_isDirty : GoodIn wsL_law wsX2_isDirty := goodIn_r _ [291, 45, 175, 176, 5, 177, 312, 313, 314, 315, 316, 317, 318, 319, 320, 321] (by decide +kernel) (by decide +kernel)
set_option maxRecDepth 20000 in
theorem gL_law_X2_isDirty : GoodIn wsL_law (wsV RL 73 RX2 yX2_isDirty wsX2_isDirty) := goodIn_app (goodIn_of _ (by decide +kernel)) ggL_law_X2_isDirty
set_option maxRecDepth 20000 in
theorem ggL_law_X1_gone : GoodIn wsL_law wsX1_gone := goodIn_r _ [295, 54, 300, 301, 302, 303, 304, 305, 306, 307, 308, 309, 310, 311] (by decide +kernel) (by decide +kernel)
set_option maxRecDepth 20000 in
theorem gL_law_X1_gone : GoodIn wsL_law (wsV RL 74 RX1 yX1_gone wsX1_gone) := goodIn_app (goodIn_of _ (by decide +kernel)) ggL_law_X1_gone
set_option maxRecDepth 20000 in
theorem ggL_law_X2_gone : GoodIn wsL_law wsX2_gone := goodIn_r _ [299, 71, 312, 313, 314, 315, 316, 317, 318, 319, 320, 321] (by decide +kernel) (by decide +kernel)
set_option maxRecDepth 20000 in
theorem gL_law_X2_gone : GoodIn wsL_law (wsV RL 77 RX2 yX2_gone wsX2_gone) := goodIn_app (goodIn_of _ (by decide +kernel)) ggL_law_X2_gone
theorem dL_law_0 : decode cL_law 0 = .ok (.new 7, 3) := by decide +kernel
theorem dL_law_3 : decode cL_law 3 = .ok (.dup, 1) := by decide +kernel
theorem dL_law_4 : decode cL_law 4 = .ok (.aload_n 0, 1) := by decide +kernel
theorem dL_law_5 : decode cL_law 5 = .ok (.iconst 0, 1) := by decide +kernel
theorem dL_law_6 : decode cL_law 6 = .ok (.invokestatic 9, 3) := by decide +kernel
theorem dL_law_9 : decode cL_law 9 = .ok (.invokespecial 15, 3) := by decide +kernel
theorem dL_law_12 : decode cL_law 12 = .ok (.astore_n 1, 1) := by decide +kernel
theorem dL_law_13 : decode cL_law 13 = .ok (.new 18, 3) := by decide +kernel
theorem dL_law_16 : decode cL_law 16 = .ok (.dup, 1) := by decide +kernel
theorem dL_law_17 : decode cL_law 17 = .ok (.aload_n 0, 1) := by decide +kernel
theorem dL_law_18 : decode cL_law 18 = .ok (.iconst 0, 1) := by decide +kernel
theorem dL_law_19 : decode cL_law 19 = .ok (.invokestatic 9, 3) := by decide +kernel
theorem dL_law_22 : decode cL_law 22 = .ok (.invokespecial 20, 3) := by decide +kernel
theorem dL_law_25 : decode cL_law 25 = .ok (.astore_n 2, 1) := by decide +kernel
theorem dL_law_26 : decode cL_law 26 = .ok (.iconst 1, 1) := by decide +kernel
theorem dL_law_27 : decode cL_law 27 = .ok (.istore_n 3, 1) := by decide +kernel
theorem dL_law_28 : decode cL_law 28 = .ok (.iload_n 3, 1) := by decide +kernel
theorem dL_law_29 : decode cL_law 29 = .ok (.aload_n 0, 1) := by decide +kernel
theorem dL_law_30 : decode cL_law 30 = .ok (.arraylength, 1) := by decide +kernel
theorem dL_law_31 : decode cL_law 31 = .ok (.iconst 3, 1) := by decide +kernel
theorem dL_law_32 : decode cL_law 32 = .ok (.isub, 1) := by decide +kernel
theorem dL_law_33 : decode cL_law 33 = .ok (.if_icmp .gt 338, 3) := by decide +kernel
theorem dL_law_36 : decode cL_law 36 = .ok (.aload_n 0, 1) := by decide +kernel
theorem dL_law_37 : decode cL_law 37 = .ok (.iload_n 3, 1) := by decide +kernel
theorem dL_law_38 : decode cL_law 38 = .ok (.iaload, 1) := by decide +kernel
theorem dL_law_39 : decode cL_law 39 = .ok (.bipush 15, 2) := by decide +kernel
theorem dL_law_41 : decode cL_law 41 = .ok (.iand, 1) := by decide +kernel
theorem dL_law_42 : decode cL_law 42 = .ok (.tableswitch 323 0 12 #[66, 77, 100, 133, 146, 169, 202, 225, 238, 251, 264, 287, 310], 66) := by decide +kernel
theorem dL_law_108 : decode cL_law 108 = .ok (.aload_n 1, 1) := by decide +kernel
theorem dL_law_109 : decode cL_law 109 = .ok (.invokevirtual 21, 3) := by decide +kernel
theorem dL_law_112 : decode cL_law 112 = .ok (.aload_n 2, 1) := by decide +kernel
theorem dL_law_113 : decode cL_law 113 = .ok (.invokevirtual 24, 3) := by decide +kernel
theorem dL_law_116 : decode cL_law 116 = .ok (.goto 249, 3) := by decide +kernel
theorem dL_law_119 : decode cL_law 119 = .ok (.aload_n 1, 1) := by decide +kernel
theorem dL_law_120 : decode cL_law 120 = .ok (.aload_n 0, 1) := by decide +kernel
theorem dL_law_121 : decode cL_law 121 = .ok (.iload_n 3, 1) := by decide +kernel
theorem dL_law_122 : decode cL_law 122 = .ok (.iconst 1, 1) := by decide +kernel
theorem dL_law_123 : decode cL_law 123 = .ok (.iadd, 1) := by decide +kernel
theorem dL_law_124 : decode cL_law 124 = .ok (.iaload, 1) := by decide +kernel
theorem dL_law_125 : decode cL_law 125 = .ok (.invokevirtual 25, 3) := by decide +kernel
theorem dL_law_128 : decode cL_law 128 = .ok (.aload_n 2, 1) := by decide +kernel
theorem dL_law_129 : decode cL_law 129 = .ok (.aload_n 0, 1) := by decide +kernel
theorem dL_law_130 : decode cL_law 130 = .ok (.iload_n 3, 1) := by decide +kernel
theorem dL_law_131 : decode cL_law 131 = .ok (.iconst 1, 1) := by decide +kernel
theorem dL_law_132 : decode cL_law 132 = .ok (.iadd, 1) := by decide +kernel
theorem dL_law_133 : decode cL_law 133 = .ok (.iaload, 1) := by decide +kernel
theorem dL_law_134 : decode cL_law 134 = .ok (.invokevirtual 29, 3) := by decide +kernel
theorem dL_law_137 : decode cL_law 137 = .ok (.if_icmp .eq 228, 3) := by decide +kernel
theorem dL_law_140 : decode cL_law 140 = .ok (.iconst 0, 1) := by decide +kernel
theorem dL_law_141 : decode cL_law 141 = .ok (.ireturn, 1) := by decide +kernel
theorem dL_law_142 : decode cL_law 142 = .ok (.aload_n 1, 1) := by decide +kernel
theorem dL_law_143 : decode cL_law 143 = .ok (.aload_n 0, 1) := by decide +kernel
theorem dL_law_144 : decode cL_law 144 = .ok (.iload_n 3, 1) := by decide +kernel
theorem dL_law_145 : decode cL_law 145 = .ok (.iconst 1, 1) := by decide +kernel
theorem dL_law_146 : decode cL_law 146 = .ok (.iadd, 1) := by decide +kernel
theorem dL_law_147 : decode cL_law 147 = .ok (.iaload, 1) := by decide +kernel
theorem dL_law_148 : decode cL_law 148 = .ok (.aload_n 0, 1) := by decide +kernel
theorem dL_law_149 : decode cL_law 149 = .ok (.iload_n 3, 1) := by decide +kernel
theorem dL_law_150 : decode cL_law 150 = .ok (.iconst 2, 1) := by decide +kernel
theorem dL_law_151 : decode cL_law 151 = .ok (.iadd, 1) := by decide +kernel
theorem dL_law_152 : decode cL_law 152 = .ok (.iaload, 1) := by decide +kernel
theorem dL_law_153 : decode cL_law 153 = .ok (.invokevirtual 30, 3) := by decide +kernel
theorem dL_law_156 : decode cL_law 156 = .ok (.aload_n 2, 1) := by decide +kernel
theorem dL_law_157 : decode cL_law 157 = .ok (.aload_n 0, 1) := by decide +kernel
theorem dL_law_158 : decode cL_law 158 = .ok (.iload_n 3, 1) := by decide +kernel
theorem dL_law_159 : decode cL_law 159 = .ok (.iconst 1, 1) := by decide +kernel
theorem dL_law_160 : decode cL_law 160 = .ok (.iadd, 1) := by decide +kernel
theorem dL_law_161 : decode cL_law 161 = .ok (.iaload, 1) := by decide +kernel
theorem dL_law_162 : decode cL_law 162 = .ok (.aload_n 0, 1) := by decide +kernel
theorem dL_law_163 : decode cL_law 163 = .ok (.iload_n 3, 1) := by decide +kernel
theorem dL_law_164 : decode cL_law 164 = .ok (.iconst 2, 1) := by decide +kernel
theorem dL_law_165 : decode cL_law 165 = .ok (.iadd, 1) := by decide +kernel
theorem dL_law_166 : decode cL_law 166 = .ok (.iaload, 1) := by decide +kernel
theorem dL_law_167 : decode cL_law 167 = .ok (.invokevirtual 34, 3) := by decide +kernel
theorem dL_law_170 : decode cL_law 170 = .ok (.if_icmp .eq 195, 3) := by decide +kernel
theorem dL_law_173 : decode cL_law 173 = .ok (.iconst 0, 1) := by decide +kernel
theorem dL_law_174 : decode cL_law 174 = .ok (.ireturn, 1) := by decide +kernel
theorem dL_law_175 : decode cL_law 175 = .ok (.aload_n 1, 1) := by decide +kernel
theorem dL_law_176 : decode cL_law 176 = .ok (.invokevirtual 35, 3) := by decide +kernel
theorem dL_law_179 : decode cL_law 179 = .ok (.aload_n 2, 1) := by decide +kernel
theorem dL_law_180 : decode cL_law 180 = .ok (.invokevirtual 39, 3) := by decide +kernel
theorem dL_law_183 : decode cL_law 183 = .ok (.if_icmp .eq 182, 3) := by decide +kernel
theorem dL_law_186 : decode cL_law 186 = .ok (.iconst 0, 1) := by decide +kernel
theorem dL_law_187 : decode cL_law 187 = .ok (.ireturn, 1) := by decide +kernel
theorem dL_law_188 : decode cL_law 188 = .ok (.aload_n 1, 1) := by decide +kernel
theorem dL_law_189 : decode cL_law 189 = .ok (.aload_n 0, 1) := by decide +kernel
theorem dL_law_190 : decode cL_law 190 = .ok (.iload_n 3, 1) := by decide +kernel
theorem dL_law_191 : decode cL_law 191 = .ok (.iconst 1, 1) := by decide +kernel
theorem dL_law_192 : decode cL_law 192 = .ok (.iadd, 1) := by decide +kernel
theorem dL_law_193 : decode cL_law 193 = .ok (.iaload, 1) := by decide +kernel
theorem dL_law_194 : decode cL_law 194 = .ok (.invokevirtual 40, 3) := by decide +kernel
theorem dL_law_197 : decode cL_law 197 = .ok (.aload_n 2, 1) := by decide +kernel
theorem dL_law_198 : decode cL_law 198 = .ok (.aload_n 0, 1) := by decide +kernel
theorem dL_law_199 : decode cL_law 199 = .ok (.iload_n 3, 1) := by decide +kernel
theorem dL_law_200 : decode cL_law 200 = .ok (.iconst 1, 1) := by decide +kernel
theorem dL_law_201 : decode cL_law 201 = .ok (.iadd, 1) := by decide +kernel
theorem dL_law_202 : decode cL_law 202 = .ok (.iaload, 1) := by decide +kernel
theorem dL_law_203 : decode cL_law 203 = .ok (.invokevirtual 43, 3) := by decide +kernel
theorem dL_law_206 : decode cL_law 206 = .ok (.if_icmp .eq 159, 3) := by decide +kernel
theorem dL_law_209 : decode cL_law 209 = .ok (.iconst 0, 1) := by decide +kernel
theorem dL_law_210 : decode cL_law 210 = .ok (.ireturn, 1) := by decide +kernel
theorem dL_law_211 : decode cL_law 211 = .ok (.aload_n 1, 1) := by decide +kernel
theorem dL_law_212 : decode cL_law 212 = .ok (.aload_n 0, 1) := by decide +kernel
theorem dL_law_213 : decode cL_law 213 = .ok (.iload_n 3, 1) := by decide +kernel
theorem dL_law_214 : decode cL_law 214 = .ok (.iconst 1, 1) := by decide +kernel
theorem dL_law_215 : decode cL_law 215 = .ok (.iadd, 1) := by decide +kernel
theorem dL_law_216 : decode cL_law 216 = .ok (.iaload, 1) := by decide +kernel
theorem dL_law_217 : decode cL_law 217 = .ok (.aload_n 0, 1) := by decide +kernel
theorem dL_law_218 : decode cL_law 218 = .ok (.iload_n 3, 1) := by decide +kernel
theorem dL_law_219 : decode cL_law 219 = .ok (.iconst 2, 1) := by decide +kernel
theorem dL_law_220 : decode cL_law 220 = .ok (.iadd, 1) := by decide +kernel
theorem dL_law_221 : decode cL_law 221 = .ok (.iaload, 1) := by decide +kernel
theorem dL_law_222 : decode cL_law 222 = .ok (.invokevirtual 44, 3) := by decide +kernel
theorem dL_law_225 : decode cL_law 225 = .ok (.aload_n 2, 1) := by decide +kernel
theorem dL_law_226 : decode cL_law 226 = .ok (.aload_n 0, 1) := by decide +kernel
theorem dL_law_227 : decode cL_law 227 = .ok (.iload_n 3, 1) := by decide +kernel
theorem dL_law_228 : decode cL_law 228 = .ok (.iconst 1, 1) := by decide +kernel
theorem dL_law_229 : decode cL_law 229 = .ok (.iadd, 1) := by decide +kernel
theorem dL_law_230 : decode cL_law 230 = .ok (.iaload, 1) := by decide +kernel
theorem dL_law_231 : decode cL_law 231 = .ok (.aload_n 0, 1) := by decide +kernel
theorem dL_law_232 : decode cL_law 232 = .ok (.iload_n 3, 1) := by decide +kernel
theorem dL_law_233 : decode cL_law 233 = .ok (.iconst 2, 1) := by decide +kernel
theorem dL_law_234 : decode cL_law 234 = .ok (.iadd, 1) := by decide +kernel
theorem dL_law_235 : decode cL_law 235 = .ok (.iaload, 1) := by decide +kernel
theorem dL_law_236 : decode cL_law 236 = .ok (.invokevirtual 48, 3) := by decide +kernel
theorem dL_law_239 : decode cL_law 239 = .ok (.if_icmp .eq 126, 3) := by decide +kernel
theorem dL_law_242 : decode cL_law 242 = .ok (.iconst 0, 1) := by decide +kernel
theorem dL_law_243 : decode cL_law 243 = .ok (.ireturn, 1) := by decide +kernel
theorem dL_law_244 : decode cL_law 244 = .ok (.aload_n 1, 1) := by decide +kernel
theorem dL_law_245 : decode cL_law 245 = .ok (.aload_n 0, 1) := by decide +kernel
theorem dL_law_246 : decode cL_law 246 = .ok (.iload_n 3, 1) := by decide +kernel
theorem dL_law_247 : decode cL_law 247 = .ok (.iconst 1, 1) := by decide +kernel
theorem dL_law_248 : decode cL_law 248 = .ok (.iadd, 1) := by decide +kernel
theorem dL_law_249 : decode cL_law 249 = .ok (.iaload, 1) := by decide +kernel
theorem dL_law_250 : decode cL_law 250 = .ok (.invokevirtual 49, 3) := by decide +kernel
theorem dL_law_253 : decode cL_law 253 = .ok (.aload_n 2, 1) := by decide +kernel
theorem dL_law_254 : decode cL_law 254 = .ok (.aload_n 0, 1) := by decide +kernel
theorem dL_law_255 : decode cL_law 255 = .ok (.iload_n 3, 1) := by decide +kernel
theorem dL_law_256 : decode cL_law 256 = .ok (.iconst 1, 1) := by decide +kernel
theorem dL_law_257 : decode cL_law 257 = .ok (.iadd, 1) := by decide +kernel
theorem dL_law_258 : decode cL_law 258 = .ok (.iaload, 1) := by decide +kernel
theorem dL_law_259 : decode cL_law 259 = .ok (.invokevirtual 52, 3) := by decide +kernel
theorem dL_law_262 : decode cL_law 262 = .ok (.if_icmp .eq 103, 3) := by decide +kernel
theorem dL_law_265 : decode cL_law 265 = .ok (.iconst 0, 1) := by decide +kernel
theorem dL_law_266 : decode cL_law 266 = .ok (.ireturn, 1) := by decide +kernel
theorem dL_law_267 : decode cL_law 267 = .ok (.aload_n 1, 1) := by decide +kernel
theorem dL_law_268 : decode cL_law 268 = .ok (.invokevirtual 53, 3) := by decide +kernel
theorem dL_law_271 : decode cL_law 271 = .ok (.aload_n 2, 1) := by decide +kernel
theorem dL_law_272 : decode cL_law 272 = .ok (.invokevirtual 56, 3) := by decide +kernel
theorem dL_law_275 : decode cL_law 275 = .ok (.if_icmp .eq 90, 3) := by decide +kernel
theorem dL_law_278 : decode cL_law 278 = .ok (.iconst 0, 1) := by decide +kernel
theorem dL_law_279 : decode cL_law 279 = .ok (.ireturn, 1) := by decide +kernel
theorem dL_law_280 : decode cL_law 280 = .ok (.aload_n 1, 1) := by decide +kernel
theorem dL_law_281 : decode cL_law 281 = .ok (.invokevirtual 57, 3) := by decide +kernel
theorem dL_law_284 : decode cL_law 284 = .ok (.aload_n 2, 1) := by decide +kernel
theorem dL_law_285 : decode cL_law 285 = .ok (.invokevirtual 60, 3) := by decide +kernel
theorem dL_law_288 : decode cL_law 288 = .ok (.if_icmp .eq 77, 3) := by decide +kernel
theorem dL_law_291 : decode cL_law 291 = .ok (.iconst 0, 1) := by decide +kernel
theorem dL_law_292 : decode cL_law 292 = .ok (.ireturn, 1) := by decide +kernel
theorem dL_law_293 : decode cL_law 293 = .ok (.aload_n 1, 1) := by decide +kernel
theorem dL_law_294 : decode cL_law 294 = .ok (.invokevirtual 61, 3) := by decide +kernel
theorem dL_law_297 : decode cL_law 297 = .ok (.aload_n 2, 1) := by decide +kernel
theorem dL_law_298 : decode cL_law 298 = .ok (.invokevirtual 64, 3) := by decide +kernel
theorem dL_law_301 : decode cL_law 301 = .ok (.if_icmp .eq 64, 3) := by decide +kernel
theorem dL_law_304 : decode cL_law 304 = .ok (.iconst 0, 1) := by decide +kernel
theorem dL_law_305 : decode cL_law 305 = .ok (.ireturn, 1) := by decide +kernel
theorem dL_law_306 : decode cL_law 306 = .ok (.aload_n 1, 1) := by decide +kernel
theorem dL_law_307 : decode cL_law 307 = .ok (.aload_n 0, 1) := by decide +kernel
theorem dL_law_308 : decode cL_law 308 = .ok (.iload_n 3, 1) := by decide +kernel
theorem dL_law_309 : decode cL_law 309 = .ok (.iconst 1, 1) := by decide +kernel
theorem dL_law_310 : decode cL_law 310 = .ok (.iadd, 1) := by decide +kernel
theorem dL_law_311 : decode cL_law 311 = .ok (.iaload, 1) := by decide +kernel
theorem dL_law_312 : decode cL_law 312 = .ok (.invokevirtual 65, 3) := by decide +kernel
theorem dL_law_315 : decode cL_law 315 = .ok (.aload_n 2, 1) := by decide +kernel
theorem dL_law_316 : decode cL_law 316 = .ok (.aload_n 0, 1) := by decide +kernel
theorem dL_law_317 : decode cL_law 317 = .ok (.iload_n 3, 1) := by decide +kernel
theorem dL_law_318 : decode cL_law 318 = .ok (.iconst 1, 1) := by decide +kernel
theorem dL_law_319 : decode cL_law 319 = .ok (.iadd, 1) := by decide +kernel
theorem dL_law_320 : decode cL_law 320 = .ok (.iaload, 1) := by decide +kernel
theorem dL_law_321 : decode cL_law 321 = .ok (.invokevirtual 68, 3) := by decide +kernel
theorem dL_law_324 : decode cL_law 324 = .ok (.if_icmp .eq 41, 3) := by decide +kernel
theorem dL_law_327 : decode cL_law 327 = .ok (.iconst 0, 1) := by decide +kernel
theorem dL_law_328 : decode cL_law 328 = .ok (.ireturn, 1) := by decide +kernel
theorem dL_law_329 : decode cL_law 329 = .ok (.aload_n 1, 1) := by decide +kernel
theorem dL_law_330 : decode cL_law 330 = .ok (.aload_n 0, 1) := by decide +kernel
theorem dL_law_331 : decode cL_law 331 = .ok (.iload_n 3, 1) := by decide +kernel
theorem dL_law_332 : decode cL_law 332 = .ok (.iconst 1, 1) := by decide +kernel
theorem dL_law_333 : decode cL_law 333 = .ok (.iadd, 1) := by decide +kernel
theorem dL_law_334 : decode cL_law 334 = .ok (.iaload, 1) := by decide +kernel
theorem dL_law_335 : decode cL_law 335 = .ok (.invokevirtual 69, 3) := by decide +kernel
theorem dL_law_338 : decode cL_law 338 = .ok (.aload_n 2, 1) := by decide +kernel
theorem dL_law_339 : decode cL_law 339 = .ok (.aload_n 0, 1) := by decide +kernel
theorem dL_law_340 : decode cL_law 340 = .ok (.iload_n 3, 1) := by decide +kernel
theorem dL_law_341 : decode cL_law 341 = .ok (.iconst 1, 1) := by decide +kernel
theorem dL_law_342 : decode cL_law 342 = .ok (.iadd, 1) := by decide +kernel
theorem dL_law_343 : decode cL_law 343 = .ok (.iaload, 1) := by decide +kernel
theorem dL_law_344 : decode cL_law 344 = .ok (.invokevirtual 73, 3) := by decide +kernel
theorem dL_law_347 : decode cL_law 347 = .ok (.if_icmp .eq 18, 3) := by decide +kernel
theorem dL_law_350 : decode cL_law 350 = .ok (.iconst 0, 1) := by decide +kernel
theorem dL_law_351 : decode cL_law 351 = .ok (.ireturn, 1) := by decide +kernel
theorem dL_law_352 : decode cL_law 352 = .ok (.aload_n 1, 1) := by decide +kernel
theorem dL_law_353 : decode cL_law 353 = .ok (.invokevirtual 74, 3) := by decide +kernel
theorem dL_law_356 : decode cL_law 356 = .ok (.aload_n 2, 1) := by decide +kernel
theorem dL_law_357 : decode cL_law 357 = .ok (.invokevirtual 77, 3) := by decide +kernel
theorem dL_law_360 : decode cL_law 360 = .ok (.if_icmp .eq 5, 3) := by decide +kernel
theorem dL_law_363 : decode cL_law 363 = .ok (.iconst 0, 1) := by decide +kernel
theorem dL_law_364 : decode cL_law 364 = .ok (.ireturn, 1) := by decide +kernel
theorem dL_law_365 : decode cL_law 365 = .ok (.iinc 3 3, 3) := by decide +kernel
theorem dL_law_368 : decode cL_law 368 = .ok (.goto (-340), 3) := by decide +kernel
theorem dL_law_371 : decode cL_law 371 = .ok (.iconst 1, 1) := by decide +kernel
theorem dL_law_372 : decode cL_law 372 = .ok (.ireturn, 1) := by decide +kernel
abbrev vwCl : List vw_C := [(RX0, TX0, 2), (RX1, TX1, 12), (RX2, TX2, 10)]
/-! ===== END printed: names ===== -/
